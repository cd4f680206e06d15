/-! pieces in numbers; the four ways from a cell; borders counted over the cells -/
theorem ct_add2 {p q r : Nat → Bool} : ∀ {n : Nat}, (∀ k, k < n → (p k).toNat = (q k).toNat + (r k).toNat) → ct p n = ct q n + ct r n := by
  intro n
  induction n with
  | zero => intro _; rfl
  | succ n ih =>
    intro h
    rw [ct_s, ct_s, ct_s, ih (fun k hk => h k (by omega)), h n (by omega)]
    omega
theorem pc_split {x a : Nat} (h : wi x a) : pc a = pc x + pc (mi a x) := by
  unfold pc
  refine ct_add2 (fun k _ => ?_)
  rw [mi_bit]
  cases e : x.testBit k
  · cases a.testBit k <;> rfl
  · rw [h k e]; rfl
theorem pie_pos {a : Nat} (ha : a < 2 ^ 36) (h0 : a ≠ 0) : 1 ≤ pc (pie a) := by
  have h1 := pie_less ha h0
  have h2 := pc_split (pie_wi ha)
  omega
theorem pc_z : pc 0 = 0 := by decide +kernel
theorem lp_facts : ∀ (d a m : Nat), a < 2 ^ 36 → pc a ≤ d → cp d a ≤ pc a ∧ (a ≠ 0 → 1 ≤ cp d a) ∧ m ≤ lp d m a ∧ pc a ≤ cp d a * lp d m a ∧ (a ≠ 0 → lp d m a ≤ max m (pc a + 1 - cp d a)) ∧ (a ≠ 0 → 1 ≤ lp d m a) := by
  intro d
  induction d with
  | zero =>
    intro a m ha hd
    have := pc_0 ha hd
    subst this
    exact ⟨Nat.zero_le _, fun q => absurd rfl q, Nat.le_refl _, by omega, fun q => absurd rfl q, fun q => absurd rfl q⟩
  | succ d ih =>
    intro a m ha hd
    rw [cp, lp]
    by_cases h0 : a = 0
    · subst h0
      rw [if_pos rfl, if_pos rfl]
      exact ⟨Nat.zero_le _, fun q => absurd rfl q, Nat.le_refl _, by rw [pc_z]; exact Nat.zero_le _, fun q => absurd rfl q, fun q => absurd rfl q⟩
    · rw [if_neg h0, if_neg h0]
      have h1 := pie_pos ha h0
      have h2 := pc_split (pie_wi ha)
      have hb : mi a (pie a) < 2 ^ 36 := mi_lt ha
      obtain ⟨i1, i2, i3, i4, i5, i6⟩ := ih (mi a (pie a)) (max m (pc (pie a))) hb (by omega)
      generalize hL : lp d (max m (pc (pie a))) (mi a (pie a)) = L at *
      generalize hC : cp d (mi a (pie a)) = C at *
      have h3 : pc (pie a) ≤ L := by omega
      refine ⟨by omega, fun _ => by omega, by omega, ?_, fun _ => ?_, fun _ => by omega⟩
      · rw [Nat.add_mul, Nat.one_mul, h2]; omega
      · by_cases hz : mi a (pie a) = 0
        · have e0 : pc (mi a (pie a)) = 0 := by rw [hz]; decide +kernel
          have e1 : C = 0 := by omega
          have e2 : L = max m (pc (pie a)) := by
            rw [← hL, hz]
            cases d with
            | zero => rfl
            | succ d => rw [lp, if_pos rfl]
          omega
        · have := i5 hz
          omega
theorem pieces_facts {a : Nat} (ha : a < 2 ^ 36) : cp 36 a ≤ pc a ∧ (0 < pc a → 1 ≤ cp 36 a) ∧ pc a ≤ lp 36 0 a * cp 36 a ∧ (0 < pc a → lp 36 0 a + cp 36 a ≤ pc a + 1) ∧ (pc a = 0 ↔ lp 36 0 a = 0) ∧ lp 36 0 a ≤ 36 := by
  obtain ⟨h1, h2, h3, h4, h5, h6⟩ := lp_facts 36 a 0 ha (pc_36 ha)
  have hp := pc_36 ha
  by_cases h0 : a = 0
  · subst h0
    have e0 : pc 0 = 0 := by decide +kernel
    have e1 : lp 36 0 0 = 0 := by rw [lp, if_pos rfl]
    rw [e0, e1] at *
    exact ⟨h1, fun q => by omega, by omega, fun q => by omega, ⟨fun _ => rfl, fun _ => rfl⟩, by omega⟩
  · have hn : pc a ≠ 0 := fun q => h0 (pc_0 ha (by omega))
    have g2 := h2 h0
    have g5 := h5 h0
    have g6 := h6 h0
    exact ⟨h1, fun _ => g2, by rw [Nat.mul_comm]; exact h4, fun _ => by omega, ⟨fun q => absurd q hn, fun q => by omega⟩, by omega⟩
/-- the country beside cell k on way w; 10 for sea, or where the map ends -/
def nbr (c : Nat → Nat) (k w : Nat) : Nat := if w = 0 then (if k < 30 then c (k + 6) else 10) else if w = 1 then (if 6 ≤ k then c (k - 6) else 10) else if w = 2 then (if k % 6 < 5 then c (k + 1) else 10) else (if 0 < k % 6 then c (k - 1) else 10)
theorem nbr0 (c : Nat → Nat) (k : Nat) : nbr c k 0 = if k < 30 then c (k + 6) else 10 := rfl
theorem nbr1 (c : Nat → Nat) (k : Nat) : nbr c k 1 = if 6 ≤ k then c (k - 6) else 10 := rfl
theorem nbr2 (c : Nat → Nat) (k : Nat) : nbr c k 2 = if k % 6 < 5 then c (k + 1) else 10 := rfl
theorem nbr3 (c : Nat → Nat) (k : Nat) : nbr c k 3 = if 0 < k % 6 then c (k - 1) else 10 := rfl
def ej (c : Nat → Nat) (a o j : Nat) : Bool := decide (c (j / 4) = a ∧ nbr c (j / 4) (j % 4) = o ∧ o ≠ a)
def Qn (c : Nat → Nat) (j a o : Nat) : Nat := ct (ej c a o) j
theorem ct_4 (p : Nat → Bool) : ∀ n, ct p (4 * n) = ct (fun k => p (4 * k)) n + ct (fun k => p (4 * k + 1)) n + ct (fun k => p (4 * k + 2)) n + ct (fun k => p (4 * k + 3)) n := by
  intro n
  induction n with
  | zero => rfl
  | succ n ih =>
    rw [show 4 * (n + 1) = 4 * n + 3 + 1 by omega, ct_s, ct_s, ct_s, ct_s, ih, ct_s, ct_s, ct_s, ct_s]
    omega
section BORD
variable {c : Nat → Nat} {a o : Nat}
theorem ej_at {k w : Nat} (hw : w < 4) : ej c a o (4 * k + w) = decide (c k = a ∧ nbr c k w = o ∧ o ≠ a) := by
  unfold ej
  rw [show (4 * k + w) / 4 = k by omega, show (4 * k + w) % 4 = w by omega]
theorem ld_big {k i : Nat} (hi : 36 ≤ i) : (ld_S c k).testBit i = false := big_bit (ld_lt c k) hi
theorem way_0 (ho : o < 10) (hn : o ≠ a) : ct (fun k => ej c a o (4 * k)) 36 = pc (ld_S c a * 2 ^ 6 &&& ld_S c o) := by
  rw [← br_1 (ld_lt c o) (ld_lt c a), pc_n (and_ltR (ld_lt c a)) (by decide)]
  refine ct_cong (fun k hk => ?_)
  rw [show 4 * k = 4 * k + 0 from rfl, ej_at (by decide), nbr0, Nat.testBit_and, Nat.testBit_div_two_pow, ld_bit hk]
  by_cases h : k < 30
  · rw [if_pos h, ld_bit (by omega), ← Bool.decide_and]
    exact decide_eq_decide.mpr ⟨fun q => ⟨q.2.1, q.1⟩, fun q => ⟨q.2, q.1, hn⟩⟩
  · rw [if_neg h, ld_big (by omega), Bool.false_and]
    exact decide_eq_false (fun q => by omega)
theorem way_1 (ho : o < 10) (hn : o ≠ a) : ct (fun k => ej c a o (4 * k + 1)) 36 = pc (ld_S c o * 2 ^ 6 &&& ld_S c a) := by
  rw [pc_n (and_ltR (ld_lt c a)) (by decide)]
  refine ct_cong (fun k hk => ?_)
  rw [ej_at (by decide), nbr1, Nat.testBit_and, bd_shl, ld_bit hk]
  by_cases h : 6 ≤ k
  · rw [if_pos h, ld_bit (by omega), decide_eq_true h, Bool.true_and, ← Bool.decide_and]
    exact decide_eq_decide.mpr ⟨fun q => ⟨q.2.1, q.1⟩, fun q => ⟨q.2, q.1, hn⟩⟩
  · rw [if_neg h, decide_eq_false h, Bool.false_and, Bool.false_and]
    exact decide_eq_false (fun q => by omega)
theorem way_2 (ho : o < 10) (hn : o ≠ a) : ct (fun k => ej c a o (4 * k + 2)) 36 = pc ((ld_S c a &&& cL) * 2 ^ 1 &&& ld_S c o) := by
  rw [← br_3 (ld_lt c o) (ld_lt c a), pc_n (and_ltR (ld_lt c a)) (by decide)]
  refine ct_cong (fun k hk => ?_)
  rw [ej_at (by decide), nbr2, Nat.testBit_and, Nat.testBit_div_two_pow, Nat.testBit_and, ld_bit hk]
  by_cases h : k % 6 < 5
  · rw [if_pos h, ld_bit (by omega), cF_bit (k + 1) (by omega), decide_eq_true (show (k + 1) % 6 ≠ 0 by omega), Bool.and_true, ← Bool.decide_and]
    exact decide_eq_decide.mpr ⟨fun q => ⟨q.2.1, q.1⟩, fun q => ⟨q.2, q.1, hn⟩⟩
  · rw [if_neg h]
    have : ((ld_S c o).testBit (k + 1) && cF.testBit (k + 1)) = false := by
      by_cases h5 : k + 1 < 36
      · rw [cF_bit (k + 1) h5, decide_eq_false (fun q => q (by omega)), Bool.and_false]
      · rw [ld_big (by omega), Bool.false_and]
    rw [this, Bool.false_and]
    exact decide_eq_false (fun q => by omega)
theorem way_3 (ho : o < 10) (hn : o ≠ a) : ct (fun k => ej c a o (4 * k + 3)) 36 = pc ((ld_S c o &&& cL) * 2 ^ 1 &&& ld_S c a) := by
  rw [pc_n (and_ltR (ld_lt c a)) (by decide)]
  refine ct_cong (fun k hk => ?_)
  rw [ej_at (by decide), nbr3, Nat.testBit_and, bd_shl, Nat.testBit_and, ld_bit hk]
  by_cases h : 0 < k % 6
  · rw [if_pos h, ld_bit (by omega), cL_bit (k - 1) (by omega), decide_eq_true (show (k - 1) % 6 ≠ 5 by omega), decide_eq_true (show 1 ≤ k by omega), Bool.true_and, Bool.and_true, ← Bool.decide_and]
    exact decide_eq_decide.mpr ⟨fun q => ⟨q.2.1, q.1⟩, fun q => ⟨q.2, q.1, hn⟩⟩
  · rw [if_neg h]
    have : (decide (1 ≤ k) && ((ld_S c o).testBit (k - 1) && cL.testBit (k - 1))) = false := by
      by_cases h5 : 1 ≤ k
      · rw [cL_bit (k - 1) (by omega), decide_eq_false (show ¬ (k - 1) % 6 ≠ 5 by omega), Bool.and_false, Bool.and_false]
      · rw [decide_eq_false h5, Bool.false_and]
    rw [this, Bool.false_and]
    exact decide_eq_false (fun q => by omega)
theorem Qn_bval (ho : o < 10) : Qn c 144 a o = bval c a o := by
  unfold Qn bval
  by_cases e : a = o
  · rw [if_pos e]
    exact ct_zero.mpr (fun k _ => decide_eq_false (fun q => q.2.2 e.symm))
  · rw [if_neg e, show 144 = 4 * 36 from rfl, ct_4, way_0 ho (fun q => e q.symm), way_1 ho (fun q => e q.symm), way_2 ho (fun q => e q.symm), way_3 ho (fun q => e q.symm)]
    unfold bo
    omega
theorem Qn_ne (ho : o < 10) : decide (Qn c 144 a o ≠ 0) = decide (o ≠ a ∧ spr (ld_S c a) &&& ld_S c o ≠ 0) := by
  refine decide_eq_decide.mpr ⟨fun h => ?_, fun h => ?_⟩
  · obtain ⟨j, hj, e⟩ : ∃ j, j < 144 ∧ ej c a o j = true := Classical.byContradiction fun q => h (ct_zero.mpr (fun k hk => bfalse (fun e => q ⟨k, hk, e⟩)))
    have e := of_decide_eq_true e
    obtain ⟨e1, e2, e3⟩ := e
    refine ⟨e3, (set_ne0 (n := 36) (and_ltR (ld_lt c o))).mpr ?_⟩
    generalize hk : j / 4 = k at *
    have hk36 : k < 36 := by omega
    have hb : (ld_S c a).testBit k = true := by rw [ld_bit hk36, decide_eq_true e1]
    rcases (show j % 4 = 0 ∨ j % 4 = 1 ∨ j % 4 = 2 ∨ j % 4 = 3 by omega) with w | w | w | w
    · rw [w, nbr0] at e2
      by_cases h : k < 30
      · rw [if_pos h] at e2
        refine ⟨k + 6, by omega, ?_⟩
        rw [Nat.testBit_and, ld_bit (show k + 6 < 36 by omega), decide_eq_true e2, spr_bit (ld_lt c a) (by omega), show k + 6 - 6 = k by omega, hb]
        simp
      · rw [if_neg h] at e2; omega
    · rw [w, nbr1] at e2
      by_cases h : 6 ≤ k
      · rw [if_pos h] at e2
        refine ⟨k - 6, by omega, ?_⟩
        rw [Nat.testBit_and, ld_bit (show k - 6 < 36 by omega), decide_eq_true e2, spr_bit (ld_lt c a) (by omega), show k - 6 + 6 = k by omega, hb]
        simp
      · rw [if_neg h] at e2; omega
    · rw [w, nbr2] at e2
      by_cases h : k % 6 < 5
      · rw [if_pos h] at e2
        refine ⟨k + 1, by omega, ?_⟩
        rw [Nat.testBit_and, ld_bit (show k + 1 < 36 by omega), decide_eq_true e2, spr_bit (ld_lt c a) (by omega), show k + 1 - 1 = k by omega, hb, decide_eq_true (show (k + 1) % 6 ≠ 0 by omega)]
        simp
      · rw [if_neg h] at e2; omega
    · rw [w, nbr3] at e2
      by_cases h : 0 < k % 6
      · rw [if_pos h] at e2
        refine ⟨k - 1, by omega, ?_⟩
        rw [Nat.testBit_and, ld_bit (show k - 1 < 36 by omega), decide_eq_true e2, spr_bit (ld_lt c a) (by omega), show k - 1 + 1 = k by omega, hb, decide_eq_true (show (k - 1) % 6 ≠ 5 by omega)]
        simp
      · rw [if_neg h] at e2; omega
  · obtain ⟨h1, h2⟩ := h
    obtain ⟨i, hi, e⟩ := (set_ne0 (n := 36) (and_ltR (ld_lt c o))).mp h2
    rw [Nat.testBit_and, Bool.and_eq_true, ld_bit hi, decide_eq_true_eq, spr_bit (ld_lt c a) hi] at e
    simp only [Bool.or_eq_true, Bool.and_eq_true, decide_eq_true_eq] at e
    obtain ⟨e, eo⟩ := e
    have hit : ∀ k w, k < 36 → w < 4 → (ld_S c a).testBit k = true → nbr c k w = o → Qn c 144 a o ≠ 0 := fun k w hk hw hb hn hz => by
      have := ct_zero.mp hz (4 * k + w) (by omega)
      rw [ej_at hw] at this
      rw [ld_bit hk, decide_eq_true_eq] at hb
      exact absurd ⟨hb, hn, h1⟩ (of_decide_eq_false this)
    have in36 : ∀ k, (ld_S c a).testBit k = true → k < 36 := fun k hb => bit_lt (ld_lt c a) hb
    rcases e with (((e | e) | e) | e) | e
    · rw [ld_bit hi, decide_eq_true_eq] at e
      exact absurd (eo.symm.trans e) h1
    · refine hit (i + 6) 1 (in36 _ e) (by decide) e ?_
      rw [nbr1, if_pos (by omega), show i + 6 - 6 = i by omega]; exact eo
    · refine hit (i - 6) 0 (in36 _ e.2) (by decide) e.2 ?_
      rw [nbr0, if_pos (by omega), show i - 6 + 6 = i by omega]; exact eo
    · have := in36 _ e.1
      refine hit (i + 1) 3 (in36 _ e.1) (by decide) e.1 ?_
      rw [nbr3, if_pos (by omega), show i + 1 - 1 = i by omega]; exact eo
    · refine hit (i - 1) 2 (in36 _ e.2.1) (by decide) e.2.1 ?_
      rw [nbr2, if_pos (by omega), show i - 1 + 1 = i by omega]; exact eo
end BORD
def Nn (c : Nat → Nat) (j a : Nat) : Nat := so (fun o => decide (Qn c j a o ≠ 0)) 10
theorem Nn_end (c : Nat → Nat) (a : Nat) : Nn c 144 a = ne_S c a := so_cong (fun o ho => Qn_ne ho)
theorem Nn_lt (c : Nat → Nat) (j a : Nat) : Nn c j a < 1024 := so_lt _ 10
