/-! the pure side: countries as a graph; conflicts, isTinted -/
def al (p : Nat → Bool) : Nat → Bool
  | 0 => true
  | n + 1 => al p n && p n
theorem al_iff {p : Nat → Bool} : ∀ {n : Nat}, al p n = true ↔ ∀ k, k < n → p k = true
  | 0 => ⟨fun _ k hk => absurd hk (Nat.not_lt_zero k), fun _ => rfl⟩
  | n + 1 => by
    rw [al, Bool.and_eq_true, al_iff]
    constructor
    · rintro ⟨h1, h2⟩ k hk
      rcases Nat.lt_succ_iff_lt_or_eq.mp hk with h | rfl
      · exact h1 k h
      · exact h2
    · intro h
      exact ⟨fun k hk => h k (by omega), h n (by omega)⟩
theorem bfalse {b : Bool} (h : ¬ b = true) : b = false := by cases b <;> simp_all
theorem set_ne0 {a n : Nat} (ha : a < 2 ^ n) : a ≠ 0 ↔ ∃ i, i < n ∧ a.testBit i = true := by
  constructor
  · intro h
    refine Classical.byContradiction fun hn => h ((set_zero ha).mpr fun k hk => ?_)
    exact bfalse fun q => hn ⟨k, hk, q⟩
  · rintro ⟨i, hi, h⟩ e
    subst e
    rw [Nat.zero_testBit] at h
    cases h
theorem spr_half {A B : Nat} (hA : A < 2 ^ 36) (hB : B < 2 ^ 36) (h : spr A &&& B ≠ 0) : spr B &&& A ≠ 0 := by
  rw [set_ne0 (n := 36) (and_lt (spr_lt hA))] at h
  rw [set_ne0 (n := 36) (and_lt (spr_lt hB))]
  obtain ⟨i, hi, h⟩ := h
  rw [Nat.testBit_and, Bool.and_eq_true, spr_bit hA hi] at h
  obtain ⟨h, hBi⟩ := h
  simp only [Bool.or_eq_true, Bool.and_eq_true, decide_eq_true_iff] at h
  rcases h with (((h | h) | ⟨h1, h⟩) | ⟨h, h1⟩) | ⟨h2, h, h1⟩
  · refine ⟨i, hi, ?_⟩
    rw [Nat.testBit_and, h, Bool.and_true, spr_bit hB hi, hBi]
    rfl
  · have hj := bit_lt hA h
    refine ⟨i + 6, hj, ?_⟩
    rw [Nat.testBit_and, h, Bool.and_true, spr_bit hB hj, Nat.add_sub_cancel, hBi, decide_eq_true (by omega)]
    simp
  · refine ⟨i - 6, by omega, ?_⟩
    rw [Nat.testBit_and, h, Bool.and_true, spr_bit hB (by omega), Nat.sub_add_cancel h1, hBi]
    simp
  · have hj := bit_lt hA h
    refine ⟨i + 1, hj, ?_⟩
    rw [Nat.testBit_and, h, Bool.and_true, spr_bit hB hj, Nat.add_sub_cancel, hBi, decide_eq_true (p := 1 ≤ i + 1) (by omega), decide_eq_true (p := (i + 1) % 6 ≠ 0) (by omega)]
    simp
  · refine ⟨i - 1, by omega, ?_⟩
    rw [Nat.testBit_and, h, Bool.and_true, spr_bit hB (by omega), Nat.sub_add_cancel h2, hBi, decide_eq_true (p := (i - 1) % 6 ≠ 5) (by omega)]
    simp
theorem ne_bit {c : Nat → Nat} {k j : Nat} (hj : j < 10) : (ne_S c k).testBit j = decide (j ≠ k ∧ spr (ld_S c k) &&& ld_S c j ≠ 0) := by
  unfold ne_S
  rw [so_bit, decide_eq_true hj, Bool.true_and]
theorem th_bit {c : Nat → Nat} {k : Nat} (hk : k < 10) : (th_S c).testBit k = decide (ld_S c k ≠ 0) := by
  unfold th_S
  rw [so_bit, decide_eq_true hk, Bool.true_and]
/-- a graph: neighbours are of each other, none of itself -/
def Gr (n : Nat → Nat) : Prop := (∀ k, k < 10 → n k < 1024) ∧ (∀ j k, j < 10 → k < 10 → (n j).testBit k = (n k).testBit j) ∧ (∀ k, k < 10 → (n k).testBit k = false)
theorem gr_ne (c : Nat → Nat) : Gr (ne_S c) := by
  refine ⟨fun k _ => ne_lt c k, fun j k hj hk => ?_, fun k hk => ?_⟩
  · rw [ne_bit hk, ne_bit hj]
    exact decide_eq_decide.mpr ⟨fun h => ⟨Ne.symm h.1, spr_half (ld_lt c j) (ld_lt c k) h.2⟩, fun h => ⟨Ne.symm h.1, spr_half (ld_lt c k) (ld_lt c j) h.2⟩⟩
  · rw [ne_bit hk]
    exact decide_eq_false fun h => h.1 rfl
theorem ne_th {c : Nat → Nat} {k j : Nat} (hj : j < 10) (h : (ne_S c k).testBit j = true) : (th_S c).testBit j = true := by
  rw [ne_bit hj, decide_eq_true_iff] at h
  rw [th_bit hj, decide_eq_true_iff]
  intro e
  exact h.2 (by rw [e, Nat.and_zero])
theorem and_pow0 {s k : Nat} : s &&& 2 ^ k = 0 ↔ s.testBit k = false := by
  constructor
  · intro h
    have := congrArg (fun x : Nat => x.testBit k) h
    simp only [Nat.testBit_and, Nat.testBit_two_pow_self, Bool.and_true, Nat.zero_testBit] at this
    exact this
  · intro h
    refine Nat.eq_of_testBit_eq fun i => ?_
    rw [Nat.testBit_and, Nat.testBit_two_pow, Nat.zero_testBit]
    by_cases e : k = i
    · subst e; rw [h, Bool.false_and]
    · rw [decide_eq_false e, Bool.and_false]
theorem has_spec {s k : Nat} (hk : k < 10) {P : Int32 → Prop} (h0 : s.testBit k = false → P 0) (h1 : s.testBit k = true → P 1) : q_X0_has (nI s) (nI k) P := by
  unfold q_X0_has
  have hb : 2 ^ k < 2 ^ 32 := Nat.pow_lt_pow_right (by decide) (by omega)
  rw [pI_bit (by omega), pI_and, pI_eq0 (Nat.lt_of_le_of_lt Nat.and_le_right hb), and_pow0]
  refine ⟨fun q => ⟨xb0, h0 q⟩, fun q => ⟨xb1, h1 ?_⟩⟩
  cases e : s.testBit k with
  | true => rfl
  | false => exact absurd e q
def sm (f : Nat → Nat) : Nat → Nat
  | 0 => 0
  | n + 1 => sm f n + f n
theorem sm_cong {f g : Nat → Nat} : ∀ {n : Nat}, (∀ k, k < n → f k = g k) → sm f n = sm g n
  | 0, _ => rfl
  | n + 1, h => by rw [sm, sm, sm_cong (fun k hk => h k (by omega)), h n (by omega)]
theorem sm_add (f g : Nat → Nat) : ∀ n, sm (fun k => f k + g k) n = sm f n + sm g n
  | 0 => rfl
  | n + 1 => by rw [sm, sm, sm, sm_add f g n]; omega
theorem sm_ct (p : Nat → Bool) : ∀ n, sm (fun k => if p k then 1 else 0) n = ct p n
  | 0 => rfl
  | n + 1 => by rw [sm, ct, sm_ct p n]
theorem sm_le {f : Nat → Nat} {b : Nat} : ∀ {n : Nat}, (∀ k, k < n → f k ≤ b) → sm f n ≤ n * b
  | 0, _ => Nat.zero_le _
  | n + 1, h => by
    have h1 := sm_le (n := n) (fun k hk => h k (show k < n + 1 by omega))
    have h2 := h n (by omega)
    rw [sm, Nat.succ_mul]
    omega
theorem dbl {E : Nat → Nat → Bool} : ∀ {n : Nat}, (∀ j k, j < n → k < n → E j k = E k j) → (∀ k, k < n → E k k = false) → sm (fun k => ct (E k) n) n = 2 * sm (fun k => ct (E k) k) n
  | 0, _, _ => rfl
  | n + 1, h1, h2 => by
    have ih := dbl (n := n) (fun j k hj hk => h1 j k (by omega) (by omega)) (fun k hk => h2 k (by omega))
    have e1 : sm (fun k => ct (E k) (n + 1)) n = sm (fun k => ct (E k) n) n + ct (E n) n := by
      have : sm (fun k => ct (E k) (n + 1)) n = sm (fun k => ct (E k) n + (if E k n then 1 else 0)) n := sm_cong (fun k _ => rfl)
      rw [this, sm_add, sm_ct (fun k => E k n)]
      congr 1
      exact ct_cong (fun k hk => h1 k n (by omega) (by omega))
    have e2 : ct (E n) (n + 1) = ct (E n) n := by
      rw [ct, h2 n (by omega)]
      rfl
    rw [sm, sm, e1, e2, ih]
    omega
/-- in conflict -/
def cE2 (n : Nat → Nat) (t : Nat → Nat) (k j : Nat) : Bool := (n k).testBit j && decide (t k ≠ 0 ∧ t k = t j)
def cfl (n : Nat → Nat) (t : Nat → Nat) : Nat := sm (fun k => ct (cE2 n t k) k) 10
theorem cfl_dbl {n t : Nat → Nat} (g : Gr n) : sm (fun k => ct (cE2 n t k) 10) 10 = 2 * cfl n t := by
  refine dbl (fun j k hj hk => ?_) (fun k hk => ?_)
  · unfold cE2
    rw [g.2.1 j k hj hk]
    congr 1
    exact decide_eq_decide.mpr ⟨fun h => ⟨by omega, h.2.symm⟩, fun h => ⟨by omega, h.2.symm⟩⟩
  · unfold cE2
    rw [g.2.2 k hk, Bool.false_and]
theorem cfl_lt (n t : Nat → Nat) : cfl n t ≤ 100 := by
  have : cfl n t ≤ 10 * 10 := sm_le (fun k hk => Nat.le_trans (ct_le _ _) (by omega))
  exact this
theorem half_raw : ∀ m, m < 101 → nI (2 * m) >>> ((1 : Int32) &&& 31) = nI m := by decide +kernel
theorem X0_conf_L {n t : Nat → Nat} {near worn : Nat → Int32} (hn : ∀ k, k < 10 → near k = nI (n k)) (hg : ∀ k, k < 10 → n k < 1024) (hw : ∀ k, k < 10 → worn k = nI (t k)) (hb : ∀ k, k < 10 → t k ≤ 10) {P0 : Int32 → Prop} (h : P0 (nI (sm (fun k => ct (cE2 n t k) 10) 10))) : ∀ (d k : Nat), k + d = 10 → q_X0_conflicts_L4 near worn P0 (d + 1) (nI (sm (fun k => ct (cE2 n t k) 10) k)) (nI k) := by
  intro d
  induction d with
  | zero =>
    intro k hk
    have : k = 10 := by omega
    subst this
    rw [q_X0_conflicts_L4]
    exact ⟨fun _ => h, fun q => absurd (by decide) q⟩
  | succ d ih =>
    intro k hk
    have xk := xin_nI (show k < 10 by omega) (by decide)
    have hbk := hb k (by omega)
    have := ih (k + 1) (by omega)
    rw [sm] at this
    rw [q_X0_conflicts_L4]
    refine ⟨fun q => absurd q (ge10 (by omega)), fun _ => ⟨xk, ?_⟩⟩
    rw [nI_clamp (n := k) (by omega), hw k (by omega), hn k (by omega), pI_eq0 (by omega), nI_1]
    refine ⟨fun q => ?_, fun q => ⟨xk, xk, X0_wearing_spec hw hb hbk ?_⟩⟩
    · have e : ct (cE2 n t k) 10 = 0 := ct_zero.mpr (fun j hj => by unfold cE2; rw [decide_eq_false (by omega), Bool.and_false])
      rw [e] at this
      exact this
    · rw [pI_and]
      have hlt : n k &&& wr t (t k) < 1024 := and_lt (n := 10) (hg k (by omega))
      refine J6_spec hlt (xl_i ?_)
      rw [nI_add]
      have e : pc (n k &&& wr t (t k)) = ct (cE2 n t k) 10 := by
        rw [pc_n (n := 10) hlt (by decide)]
        refine ct_cong (fun j hj => ?_)
        unfold cE2
        rw [Nat.testBit_and, wr_bit hj]
        congr 1
        exact decide_eq_decide.mpr (by omega)
      rw [e]
      exact this
theorem X0_conf_spec {n t : Nat → Nat} {near worn : Nat → Int32} (g : Gr n) (hn : ∀ k, k < 10 → near k = nI (n k)) (hw : ∀ k, k < 10 → worn k = nI (t k)) (hb : ∀ k, k < 10 → t k ≤ 10) {P : Int32 → Prop} (h : P (nI (cfl n t))) : q_X0_conflicts near worn P := by
  refine ⟨11, X0_conf_L hn g.1 hw hb ?_ 10 0 rfl⟩
  rw [cfl_dbl g, half_raw _ (Nat.lt_succ_of_le (cfl_lt n t))]
  exact h
def isTb (c t : Nat → Nat) (n : Nat) : Bool := decide (cfl (ne_S c) t = 0) && al (fun k => !(th_S c).testBit k || decide (t k ≠ 0)) n
def bI (b : Bool) : Int32 := if b then 1 else 0
theorem X0_isT_spec {c t : Nat → Nat} {near worn : Nat → Int32} (hn : ∀ k, k < 10 → near k = nI (ne_S c k)) (hw : ∀ k, k < 10 → worn k = nI (t k)) (ht : ∀ k, k < 10 → t k ≤ 10) {P : Int32 → Prop} (h : P (bI (isTb c t 10))) : q_X0_isTinted (nI (th_S c)) near worn P := by
  unfold q_X0_isTinted
  refine X0_wearing_spec (v := 0) hw ht (by decide) ?_
  rw [pI_and]
  have hlt : th_S c &&& wr t 0 < 1024 := and_lt (n := 10) (th_lt c)
  rw [pI_eq0 (by omega)]
  have e : th_S c &&& wr t 0 = 0 ↔ al (fun k => !(th_S c).testBit k || decide (t k ≠ 0)) 10 = true := by
    rw [set_zero (n := 10) hlt, al_iff]
    constructor
    · intro h k hk
      have := h k hk
      rw [Nat.testBit_and, wr_bit hk] at this
      by_cases z : t k = 0
      · rw [decide_eq_true z, Bool.and_true] at this
        rw [this]; rfl
      · rw [decide_eq_true z, Bool.or_true]
    · intro h k hk
      have := h k hk
      rw [Nat.testBit_and, wr_bit hk]
      by_cases z : t k = 0
      · rw [decide_eq_false (fun q => q z), Bool.or_false] at this
        cases q : (th_S c).testBit k with
        | false => rfl
        | true => rw [q] at this; cases this
      · rw [decide_eq_false z, Bool.and_false]
  rw [e]
  refine ⟨fun q => ⟨xb0, ?_⟩, fun q => X0_conf_spec (gr_ne c) hn hw ht ?_⟩
  · have : isTb c t 10 = false := by unfold isTb; rw [bfalse q, Bool.and_false]
    rw [this] at h
    exact h
  · rw [pI_eq0 (Nat.lt_of_le_of_lt (cfl_lt _ t) (by decide))]
    refine ⟨fun q2 => ⟨xb0, ?_⟩, fun q2 => ⟨xb1, ?_⟩⟩
    · have : isTb c t 10 = false := by unfold isTb; rw [decide_eq_false q2, Bool.false_and]
      rw [this] at h
      exact h
    · have : isTb c t 10 = true := by unfold isTb; rw [decide_eq_true q2, q]; rfl
      rw [this] at h
      exact h
