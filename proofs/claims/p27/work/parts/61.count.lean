/-! the pure side: the reference's counting, tint by tint -/
theorem wi_mi {A S : Nat} (hA : A < 1024) : wi A S ↔ mi A S = 0 := by
  rw [mi0_iff (n := 10) hA]
  exact ⟨fun h i _ a => h i a, fun h i a => h i (bit_lt (n := 10) hA a) a⟩
theorem wi_le {A S : Nat} (h : wi A S) : A ≤ S := by
  have : A = A &&& S := Nat.eq_of_testBit_eq fun i => by
    rw [Nat.testBit_and]
    cases a : A.testBit i with
    | false => rfl
    | true => rw [h i a]; rfl
  rw [this]
  exact Nat.and_le_right
theorem half_bit (a i : Nat) : (a / 2).testBit i = a.testBit (i + 1) := by
  rw [show a / 2 = a / 2 ^ 1 from rfl, Nat.testBit_div_two_pow, Nat.add_comm]
theorem half_and (a b : Nat) : (a &&& b) / 2 = a / 2 &&& b / 2 := Nat.eq_of_testBit_eq fun i => by
  rw [half_bit, Nat.testBit_and, Nat.testBit_and, half_bit, half_bit]
theorem odd_and (a b : Nat) : (a &&& b) % 2 = 1 ↔ a % 2 = 1 ∧ b % 2 = 1 := by
  have := Nat.testBit_and a b 0
  simp only [Nat.testBit_zero] at this
  rw [← decide_eq_true_iff (p := (a &&& b) % 2 = 1), this, Bool.and_eq_true, decide_eq_true_iff, decide_eq_true_iff]
/-- between a subset and the one that is taken next there is none -/
theorem sub_le : ∀ (x y m : Nat), wi x m → wi y m → y < x → y ≤ (x - 1) &&& m := by
  intro x
  induction x using Nat.strongRecOn with
  | ind x ih =>
    intro y m hx hy hlt
    have hx2 : wi (x / 2) (m / 2) := fun i h => by rw [half_bit] at h ⊢; exact hx _ h
    have hy2 : wi (y / 2) (m / 2) := fun i h => by rw [half_bit] at h ⊢; exact hy _ h
    have ez := half_and (x - 1) m
    have eo := odd_and (x - 1) m
    have hym : y % 2 = 1 → m % 2 = 1 := fun h => by
      have := hy 0 (by rw [Nat.testBit_zero]; exact decide_eq_true h)
      rw [Nat.testBit_zero, decide_eq_true_iff] at this
      exact this
    rcases Nat.mod_two_eq_zero_or_one x with h | h
    · have i2 := ih (x / 2) (by omega) (y / 2) (m / 2) hx2 hy2 (by omega)
      rw [show x / 2 - 1 = (x - 1) / 2 by omega, ← ez] at i2
      omega
    · have e : x / 2 &&& m / 2 = x / 2 := wi_anti (wi_and_l _ _) (fun i q => by rw [Nat.testBit_and, q, hx2 i q]; rfl)
      rw [show (x - 1) / 2 = x / 2 by omega, e] at ez
      omega
theorem nI_sub1 {x : Nat} (h : 0 < x) : nI x - (1 : Int32) = nI (x - 1) := by
  obtain ⟨y, rfl⟩ : ∃ y, x = y + 1 := ⟨x - 1, by omega⟩
  exact nI_pred y
theorem mi_self_or {x A : Nat} (h : ∀ i, x.testBit i = true → A.testBit i = false) : mi (x ||| A) A = x := Nat.eq_of_testBit_eq fun i => by
  rw [mi_bit, Nat.testBit_or]
  cases a : x.testBit i with
  | true => rw [h i a]; rfl
  | false => cases A.testBit i <;> rfl
theorem or_mi_self {s A : Nat} (h : wi A s) : mi s A ||| A = s := Nat.eq_of_testBit_eq fun i => by
  rw [Nat.testBit_or, mi_bit]
  cases a : A.testBit i with
  | true => rw [h i a]; rfl
  | false => cases s.testBit i <;> rfl
def adT (n : Nat → Nat) (th : Nat) (W : Nat → Nat) (s A : Nat) : Nat := if (decide (mi A th = 0) && idb n A) = true then (if mi A s = 0 then W (mi s A) else 0) else 0
def adN (n : Nat → Nat) (W : Nat → Nat) (s : Nat) : Nat := sb s 10 (fun A => if idb n A = true then W (mi s A) else 0)
theorem adT_sum {n : Nat → Nat} {th : Nat} {W : Nat → Nat} {s : Nat} (hs : wi s th) : sm (adT n th W s) 1024 = adN n W s := by
  unfold adN
  rw [← sb_lin]
  refine sm_cong fun A hA => ?_
  unfold adT
  by_cases a : mi A s = 0
  · have : mi A th = 0 := (wi_mi hA).mp (wi_tr ((wi_mi hA).mpr a) hs)
    rw [decide_eq_true this, Bool.true_and, if_pos a, if_pos a]
  · rw [if_neg a, if_neg a, ite_self]
theorem chkN_bad {p : Int32} (h : p < 0 ∨ (10 : Int32) < p) {Q : Prop} {T : String → Prop} (ht : T "java/lang/IllegalArgumentException") : q_X0_checkNumberOfTints p Q T := by
  refine ⟨fun _ => ht, fun h1 => ⟨fun h2 => ?_, fun _ => ht⟩⟩
  rcases h with h | h
  · exact absurd h h1
  · exact (le_ltA h2 h).elim
theorem chkN_ok {t : Nat} (ht : t ≤ 10) {Q : Prop} {T : String → Prop} (h : Q) : q_X0_checkNumberOfTints (nI t) Q T := ⟨fun q => absurd q (nI_pos (by omega)), fun _ => ⟨fun _ => h, fun q => absurd (nI_le (b := 10) ht (by decide)) q⟩⟩
