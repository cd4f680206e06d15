/-! the pure side: the map; what the reference's looks and the class's findNeighbours find -/
theorem ge10 {k : Nat} (h : k < 10) : ¬ (10 : Int32) ≤ nI k := nI_ge (b := 10) h (by decide)
theorem ge36 {k : Nat} (h : k < 36) : ¬ (36 : Int32) ≤ nI k := nI_ge (b := 36) h (by decide)
def cv (n : Nat) : Int32 := if n = 10 then -1 else nI n
theorem cv_eq {a k : Nat} (ha : a ≤ 10) (hk : k < 10) : cv a = nI k ↔ a = k := by
  have : ∀ a, a < 11 → ∀ k, k < 10 → (cv a = nI k ↔ a = k) := by decide +kernel
  exact this a (by omega) k hk
theorem cv_inj {a b : Nat} (ha : a ≤ 10) (hb : b ≤ 10) : cv a = cv b ↔ a = b := by
  have : ∀ a, a < 11 → ∀ b, b < 11 → (cv a = cv b ↔ a = b) := by decide +kernel
  exact this a (by omega) b (by omega)
/-- the cells of a country -/
def ld_S (c : Nat → Nat) (k : Nat) : Nat := so (fun i => decide (c i = k)) 36
theorem ld_lt (c : Nat → Nat) (k : Nat) : ld_S c k < 2 ^ 36 := so_lt _ _
theorem ld_bit {c : Nat → Nat} {k i : Nat} (hi : i < 36) : (ld_S c k).testBit i = decide (c i = k) := by
  unfold ld_S
  rw [so_bit]
  simp [hi]
/-- the countries that are there -/
def th_S (c : Nat → Nat) : Nat := so (fun k => decide (ld_S c k ≠ 0)) 10
/-- the neighbours of a country -/
def ne_S (c : Nat → Nat) (k : Nat) : Nat := so (fun j => decide (j ≠ k ∧ spr (ld_S c k) &&& ld_S c j ≠ 0)) 10
theorem th_lt (c : Nat → Nat) : th_S c < 1024 := so_lt _ 10
theorem ne_lt (c : Nat → Nat) (k : Nat) : ne_S c k < 1024 := so_lt _ 10
theorem upL_s {f : Nat → Int64} {k : Nat} {x : Int64} : vp_updL f k x k = x := if_pos rfl
theorem upL_n {f : Nat → Int64} {k j : Nat} {x : Int64} (h : j ≠ k) : vp_updL f k x j = f j := if_neg h
theorem upI_s {f : Nat → Int32} {k : Nat} {x : Int32} : upd f k x k = x := if_pos rfl
theorem upI_n {f : Nat → Int32} {k j : Nat} {x : Int32} (h : j ≠ k) : upd f k x j = f j := if_neg h
theorem L_or0 (x : Int64) : x ||| (0 : Int64) = x := by
  apply Int64.toBitVec_inj.1
  show x.toBitVec ||| 0#64 = x.toBitVec
  simp
theorem I_or0 (x : Int32) : x ||| (0 : Int32) = x := by
  apply Int32.toBitVec_inj.1
  show x.toBitVec ||| 0#32 = x.toBitVec
  simp
theorem so_s_t {p : Nat → Bool} {n : Nat} (h : p n = true) : so p (n + 1) = so p n ||| 2 ^ n := by rw [so, if_pos h]
theorem so_s_f {p : Nat → Bool} {n : Nat} (h : p n = false) : so p (n + 1) = so p n := by rw [so, if_neg (by rw [h]; exact Bool.false_ne_true), Nat.or_zero]
theorem thoseIn_L {c : Nat → Nat} {land : Nat → Int64} (hc : ∀ j, j < 10 → land j = lN (ld_S c j)) {a : Nat} {P0 : Int32 → Prop} (h : P0 (nI (so (fun j => decide (ld_S c j &&& a ≠ 0)) 10))) : ∀ (d i : Nat), i + d = 10 → q_X0_thoseIn_L5 (lN a) land P0 (d + 1) (nI (so (fun j => decide (ld_S c j &&& a ≠ 0)) i)) (nI i) := by
  intro d
  induction d with
  | zero =>
    intro i hi
    have : i = 10 := by omega
    subst this
    rw [q_X0_thoseIn_L5]
    exact ⟨fun _ => h, fun q => absurd (by decide) q⟩
  | succ d ih =>
    intro i hi
    rw [q_X0_thoseIn_L5]
    refine ⟨fun q => absurd q (ge10 (by omega)), fun _ => ⟨xin_nI (by omega) (by decide), ?_⟩⟩
    rw [nI_clamp (n := i) (by omega), hc i (by omega), pL_and, pcmp, show (0 : Int64) = lN 0 from rfl, pL_inj (Nat.lt_of_lt_of_le (and_lt (ld_lt _ _)) (by decide)) (by decide), nI_1]
    have := ih (i + 1) (by omega)
    refine ⟨fun q => ?_, fun q => ?_⟩
    · rw [so_s_f (decide_eq_false (fun z => z q))] at this
      exact this
    · simp only [xl]
      rw [so_s_t (decide_eq_true q)] at this
      rw [pI_bit (by omega), pI_or]
      exact this
theorem ne_eq (c : Nat → Nat) {k : Nat} (hk : k < 10) : mi (so (fun j => decide (ld_S c j &&& spr (ld_S c k) ≠ 0)) 10) (2 ^ k) = ne_S c k := by
  refine so_eq (n := 10) (mi_lt (so_lt _ 10)) (fun j hj => ?_)
  rw [mi_bit, so_bit, Nat.testBit_two_pow, decide_eq_true hj, Bool.true_and, Nat.and_comm]
  by_cases e : k = j
  · subst e; simp
  · have e2 : j ≠ k := fun q => e q.symm
    simp [e, e2]
theorem findN_L {c : Nat → Nat} {land : Nat → Int64} (hc : ∀ j, j < 10 → land j = lN (ld_S c j)) {P0 : Int32 → (Nat → Int32) → Prop} : ∀ (d k : Nat) (near : Nat → Int32), k + d = 10 → (∀ j, j < k → near j = nI (ne_S c j)) → (∀ near', (∀ j, j < 10 → near' j = nI (ne_S c j)) → P0 (nI (th_S c)) near') → q_X0_findNeighbours_L7 land P0 (d + 1) (nI k) (nI (so (fun k => decide (ld_S c k ≠ 0)) k)) near := by
  intro d
  induction d with
  | zero =>
    intro k near hk e h
    have : k = 10 := by omega
    subst this
    rw [q_X0_findNeighbours_L7]
    exact ⟨fun _ => h near e, fun q => absurd (by decide) q⟩
  | succ d ih =>
    intro k near hk e h
    have xk := xin_nI (show k < 10 by omega) (by decide)
    rw [q_X0_findNeighbours_L7]
    refine ⟨fun q => absurd q (ge10 (by omega)), fun _ => ⟨xk, ?_⟩⟩
    rw [nI_clamp (n := k) (by omega), hc k (by omega), pcmp, show (0 : Int64) = lN 0 from rfl, pL_inj (Nat.lt_of_lt_of_le (ld_lt _ _) (by decide)) (by decide), pI_bit (by omega), pI_or]
    refine xj1_i (nI (so (fun k => decide (ld_S c k ≠ 0)) (k + 1))) (fun J hJ => ⟨fun q => ?_, fun q => ?_⟩) ⟨xk, X0_spread_spec (ld_lt _ _) ⟨11, thoseIn_L hc ⟨xk, ?_⟩ 10 0 rfl⟩⟩
    · rw [so_s_f (decide_eq_false (fun z => z q))] at hJ
      exact hJ
    · rw [so_s_t (decide_eq_true q)] at hJ
      exact hJ
    · rw [pI_mi, ne_eq c (by omega), nI_1]
      refine ih (k + 1) _ (by omega) (fun j hj => ?_) h
      by_cases q : j = k
      · subst q; exact upI_s
      · rw [upI_n q]; exact e j (by omega)
theorem findN_spec {c : Nat → Nat} {land : Nat → Int64} (hc : ∀ j, j < 10 → land j = lN (ld_S c j)) {near : Nat → Int32} {P : Int32 → (Nat → Int32) → Prop} (h : ∀ near', (∀ j, j < 10 → near' j = nI (ne_S c j)) → P (nI (th_S c)) near') : q_X0_findNeighbours land near P := ⟨11, findN_L hc 10 0 near rfl (fun j hj => absurd hj (Nat.not_lt_zero j)) h⟩
