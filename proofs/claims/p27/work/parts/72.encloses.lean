/-! what a country encloses: the law's marks are the cells reached from the edge -/
section EN
variable {c : Nat → Nat} {u : Nat}
def cond9 (c : Nat → Nat) (u s k : Nat) : Bool := !s.testBit k && (nxt s k && decide (c k ≠ u))
theorem es_t {s k : Nat} (h : cond9 c u s k = true) : es c u s k = s ||| 2 ^ k := if_pos h
theorem es_f {s k : Nat} (h : cond9 c u s k = false) : es c u s k = s := if_neg (by unfold cond9 at h; rw [h]; exact Bool.false_ne_true)
theorem em_t {d k s m : Nat} (h : cond9 c u s k = true) : em c u (d + 1) k s m = em c u d (k + 1) (s ||| 2 ^ k) 1 := by
  rw [em, es_t h]
  unfold cond9 at h
  rw [if_pos h]
theorem em_f {d k s m : Nat} (h : cond9 c u s k = false) : em c u (d + 1) k s m = em c u d (k + 1) s m := by
  rw [em, es_f h, if_neg (by unfold cond9 at h; rw [h]; exact Bool.false_ne_true)]
theorem em_one : ∀ (d k s : Nat), em c u d k s 1 = 1 := by
  intro d
  induction d with
  | zero => intro k s; rfl
  | succ d ih =>
    intro k s
    cases h : cond9 c u s k
    · rw [em_f h]; exact ih _ _
    · rw [em_t h]; exact ih _ _
theorem er_sub : ∀ (d k s : Nat), wi s (er c u d k s) := by
  intro d
  induction d with
  | zero => intro k s; exact wi_rf s
  | succ d ih =>
    intro k s
    rw [er]
    refine wi_tr (fun i hi => ?_) (ih (k + 1) (es c u s k))
    cases h : cond9 c u s k
    · rw [es_f h]; exact hi
    · rw [es_t h, Nat.testBit_or, hi, Bool.true_or]
theorem er_lt : ∀ (d k s : Nat), k + d = 36 → s < 2 ^ 36 → er c u d k s < 2 ^ 36 := by
  intro d
  induction d with
  | zero => intro k s _ hs; exact hs
  | succ d ih =>
    intro k s hk hs
    rw [er]
    exact ih _ _ (by omega) (es_lt hs (by omega))
theorem er_0 : ∀ (d k s : Nat), em c u d k s 0 = 0 → er c u d k s = s ∧ ∀ j, k ≤ j → j < k + d → cond9 c u s j = false := by
  intro d
  induction d with
  | zero => intro k s _; exact ⟨rfl, fun j h1 h2 => by omega⟩
  | succ d ih =>
    intro k s h
    cases e : cond9 c u s k
    · rw [em_f e] at h
      rw [er, es_f e]
      obtain ⟨h1, h2⟩ := ih (k + 1) s h
      refine ⟨h1, fun j q1 q2 => ?_⟩
      by_cases q : j = k
      · rw [q]; exact e
      · exact h2 j (by omega) (by omega)
    · rw [em_t e, em_one] at h
      exact absurd h (by decide)
theorem pow_bit36 {k : Nat} (s : Nat) (h : s.testBit k = false) : s ≠ s ||| 2 ^ k := fun e => by
  have : (s ||| 2 ^ k).testBit k = true := by rw [Nat.testBit_or, Nat.testBit_two_pow_self, Bool.or_true]
  rw [← e, h] at this
  cases this
theorem er_1 : ∀ (d k s : Nat), k + d = 36 → s < 2 ^ 36 → em c u d k s 0 ≠ 0 → pc s < pc (er c u d k s) := by
  intro d
  induction d with
  | zero => intro k s _ _ h; exact absurd rfl h
  | succ d ih =>
    intro k s hk hs h
    cases e : cond9 c u s k
    · rw [em_f e] at h
      rw [er, es_f e]
      exact ih (k + 1) s (by omega) hs h
    · rw [er, es_t e]
      have hb : s.testBit k = false := by
        unfold cond9 at e
        cases q : s.testBit k
        · rfl
        · rw [q] at e; cases e
      have hl : s ||| 2 ^ k < 2 ^ 36 := or_lt hs (Nat.pow_lt_pow_right (by decide) (by omega))
      refine Nat.lt_of_lt_of_le (wi_pc_lt (fun i hi => by rw [Nat.testBit_or, hi, Bool.true_or]) (Nat.lt_of_lt_of_le hl (by decide)) (pow_bit36 s hb)) (wi_pc (er_sub _ _ _))
def M9 (c : Nat → Nat) (u : Nat) : Nat := mi cM (ld_S c u)
def R9 (c : Nat → Nat) (u : Nat) : Nat := rch (M9 c u) (cE &&& M9 c u)
theorem M9_lt : M9 c u < 2 ^ 36 := mi_lt cM_lt
theorem M9_bit {k : Nat} (hk : k < 36) : (M9 c u).testBit k = decide (c k ≠ u) := by
  unfold M9
  rw [mi_bit, cM_bit, ld_bit hk, decide_eq_true hk, Bool.true_and]
  by_cases e : c k = u
  · rw [decide_eq_true e, decide_eq_false (fun q => q e)]; rfl
  · rw [decide_eq_false e, decide_eq_true e]; rfl
theorem e9_wi : wi (cE &&& M9 c u) (M9 c u) := wi_and_r _ _
theorem R9_lt : R9 c u < 2 ^ 36 := wi_lt (rch_wi e9_wi) M9_lt
theorem cE_bit : ∀ k, k < 36 → cE.testBit k = (decide (k / 6 % 5 = 0) || decide (k % 6 % 5 = 0)) := by decide +kernel
theorem R9_fix : spr (R9 c u) &&& M9 c u = R9 c u := ir_fix e9_wi M9_lt
theorem R9_cl {s k : Nat} (hs : wi s (R9 c u)) (hk : k < 36) (hx : nxt s k = true) (hc : c k ≠ u) : (R9 c u).testBit k = true := by
  have hM : (M9 c u).testBit k = true := by rw [M9_bit hk, decide_eq_true hc]
  by_cases he : k / 6 % 5 = 0 ∨ k % 6 % 5 = 0
  · refine rch_from e9_wi M9_lt k ?_
    rw [Nat.testBit_and, hM, Bool.and_true, cE_bit k hk]
    rcases he with he | he <;> simp [he]
  · rw [← R9_fix, Nat.testBit_and, hM, Bool.and_true, spr_bit R9_lt hk]
    have h7 : 7 ≤ k ∧ k ≤ 28 := by omega
    unfold nxt at hx
    rw [decide_eq_false (fun q => he (Or.inl q)), decide_eq_false (fun q => he (Or.inr q)), Bool.false_or, Bool.false_or] at hx
    rw [decide_eq_true (show 6 ≤ k by omega), decide_eq_true (show k % 6 ≠ 5 by omega), decide_eq_true (show 1 ≤ k by omega), decide_eq_true (show k % 6 ≠ 0 by omega)]
    simp only [Bool.or_eq_true] at hx
    rcases hx with (h | h) | (h | h)
    · rw [hs _ h]; simp
    · rw [hs _ h]; simp
    · rw [hs _ h]; simp
    · rw [hs _ h]; simp
theorem R9_min {s : Nat} (hcl : ∀ k, k < 36 → cond9 c u s k = false) : wi (R9 c u) s := by
  have one : ∀ k, k < 36 → nxt s k = true → (M9 c u).testBit k = true → s.testBit k = true := fun k hk hx hM => by
    rw [M9_bit hk] at hM
    have := hcl k hk
    unfold cond9 at this
    rw [hx, hM] at this
    cases q : s.testBit k
    · rw [q] at this; cases this
    · rfl
  have key : ∀ j, wi (ir (M9 c u) (cE &&& M9 c u) j) s := by
    intro j
    induction j with
    | zero =>
      intro k hk
      rw [ir, Nat.testBit_and, Bool.and_eq_true] at hk
      have hk36 := bit_lt M9_lt hk.2
      refine one k hk36 ?_ hk.2
      rw [cE_bit k hk36] at hk
      unfold nxt
      rw [hk.1, Bool.true_or]
    | succ j ih =>
      intro k hk
      rw [ir, Nat.testBit_and, Bool.and_eq_true] at hk
      have hk36 := bit_lt M9_lt hk.2
      have hs := hk.1
      rw [spr_bit (ir_lt e9_wi M9_lt j) hk36] at hs
      simp only [Bool.or_eq_true, Bool.and_eq_true, decide_eq_true_eq] at hs
      rcases hs with (((hs | hs) | hs) | hs) | hs
      · exact ih k hs
      · exact one k hk36 (by unfold nxt; rw [ih _ hs]; simp) hk.2
      · exact one k hk36 (by unfold nxt; rw [ih _ hs.2]; simp) hk.2
      · exact one k hk36 (by unfold nxt; rw [ih _ hs.1]; simp) hk.2
      · exact one k hk36 (by unfold nxt; rw [ih _ hs.2.1]; simp) hk.2
  exact key 36
theorem er_R : ∀ (d k s : Nat), k + d = 36 → wi s (R9 c u) → wi (er c u d k s) (R9 c u) := by
  intro d
  induction d with
  | zero => intro k s _ hs; exact hs
  | succ d ih =>
    intro k s hk hs
    rw [er]
    refine ih _ _ (by omega) ?_
    cases e : cond9 c u s k
    · rw [es_f e]; exact hs
    · rw [es_t e]
      unfold cond9 at e
      rw [Bool.and_eq_true, Bool.and_eq_true, decide_eq_true_eq] at e
      intro i hi
      rw [orp_bit, Bool.or_eq_true, decide_eq_true_eq] at hi
      rcases hi with hi | hi
      · exact hs i hi
      · subst hi
        exact R9_cl hs (by omega) e.2.1 e.2.2
variable {land : Nat → Int64} {there : Int32} {near worn : Nat → Int32} {t : Nat → Nat}
theorem enc_5 (r : RX land there near worn c t) (hu : u < 10) {P0 : Int64 → Prop} (h : P0 (lN (R9 c u))) : ∀ (d s : Nat), s < 2 ^ 36 → wi s (R9 c u) → 36 ≤ pc s + d → ∃ f, q_L_encloses_L5 (nI u) land P0 f (lN s) (nI 1) := by
  intro d
  induction d with
  | zero =>
    intro s hs hw hd
    refine ⟨2, ?_⟩
    rw [q_L_encloses_L5]
    refine ⟨fun q => absurd q (by decide), fun _ => ⟨37, enc_16 r hu 36 0 s 0 rfl hs ?_⟩⟩
    by_cases e : em c u 36 0 s 0 = 0
    · obtain ⟨e1, e2⟩ := er_0 36 0 s e
      rw [e, e1]
      show q_L_encloses_L5 (nI u) land P0 1 (lN s) (nI 0)
      rw [q_L_encloses_L5]
      have : s = R9 c u := wi_anti hw (R9_min (fun k hk => e2 k (Nat.zero_le _) (by omega)))
      exact ⟨fun _ => by rw [this]; exact h, fun q => absurd rfl q⟩
    · have := er_1 36 0 s rfl hs e
      have := pc_36 (er_lt (c := c) (u := u) 36 0 s rfl hs)
      omega
  | succ d ih =>
    intro s hs hw hd
    by_cases e : em c u 36 0 s 0 = 0
    · refine ⟨2, ?_⟩
      rw [q_L_encloses_L5]
      refine ⟨fun q => absurd q (by decide), fun _ => ⟨37, enc_16 r hu 36 0 s 0 rfl hs ?_⟩⟩
      obtain ⟨e1, e2⟩ := er_0 36 0 s e
      rw [e, e1]
      show q_L_encloses_L5 (nI u) land P0 1 (lN s) (nI 0)
      rw [q_L_encloses_L5]
      have : s = R9 c u := wi_anti hw (R9_min (fun k hk => e2 k (Nat.zero_le _) (by omega)))
      exact ⟨fun _ => by rw [this]; exact h, fun q => absurd rfl q⟩
    · have h1 := er_1 36 0 s rfl hs e
      obtain ⟨f, hf⟩ := ih (er c u 36 0 s) (er_lt 36 0 s rfl hs) (er_R 36 0 s rfl hw) (by omega)
      refine ⟨f + 1, ?_⟩
      rw [q_L_encloses_L5]
      refine ⟨fun q => absurd q (by decide), fun _ => ⟨37, enc_16 r hu 36 0 s 0 rfl hs ?_⟩⟩
      have e1 : em c u 36 0 s 0 = 1 := by
        have key : ∀ (d k s : Nat), em c u d k s 0 = 0 ∨ em c u d k s 0 = 1 := by
          intro d
          induction d with
          | zero => intro k s; exact Or.inl rfl
          | succ d ih =>
            intro k s
            cases q : cond9 c u s k
            · rw [em_f q]; exact ih _ _
            · rw [em_t q, em_one]; exact Or.inr rfl
        rcases key 36 0 s with q | q
        · exact absurd q e
        · exact q
      rw [e1]
      exact hf
def p9 (c : Nat → Nat) (u : Nat) (i : Nat) : Bool := !(R9 c u).testBit i && decide (c i ≠ u)
theorem enc_177 (r : RX land there near worn c t) (hu : u < 10) {P0 : Int32 → Prop} (h : P0 (nI (ct (p9 c u) 36))) : ∀ (d k : Nat), k + d = 36 → q_L_encloses_L177 (nI u) (lN (R9 c u)) land P0 (d + 1) (nI (ct (p9 c u) k)) (nI k) := by
  intro d
  induction d with
  | zero =>
    intro k hk
    rw [q_L_encloses_L177]
    have : k = 36 := by omega
    subst this
    exact ⟨fun _ => h, fun q => absurd (show (36 : Int32) ≤ nI 36 by decide) q⟩
  | succ d ih =>
    intro k hk
    rw [q_L_encloses_L177]
    have hk6 := d6_raw k (by omega)
    have g := ih (k + 1) (by omega)
    rw [ct_s] at g
    refine ⟨fun q => absurd q (ge36 (by omega)), fun _ => ?_⟩
    rw [hk6.1] at *
    rw [show nI k - nI (k / 6) * (6 : Int32) = nI (k % 6) from hk6.2, show nI k + (1 : Int32) = nI (k + 1) from nI_add k 1, tbL0 R9_lt (by omega)]
    refine ⟨fun a => xl_i ?_, fun a => cell_in r (by omega) ⟨fun e => xl_i ?_, fun e => xl_i ?_⟩⟩
    · have : p9 c u k = false := by
        unfold p9
        rw [show (R9 c u).testBit k = true by cases q : (R9 c u).testBit k; exact absurd q a; rfl]; rfl
      rw [I_add0]
      rw [this] at g
      exact g
    · have : p9 c u k = false := by
        unfold p9
        rw [show c k = u from (cv_eq (r.1 k (by omega)) hu).mp e]; simp
      rw [I_add0]
      rw [this] at g
      exact g
    · have hne : c k ≠ u := fun q => e (by rw [q]; exact cv_n hu)
      have : p9 c u k = true := by
        unfold p9
        rw [a]; simp [hne]
      rw [this] at g
      rw [show nI (ct (p9 c u) k) + (1 : Int32) = nI (ct (p9 c u) k + 1) from nI_add _ 1]
      exact g
theorem encl_p9 : encl (ld_S c u) = ct (p9 c u) 36 := by
  show pc (mi (M9 c u) (R9 c u)) = _
  rw [pc_n (mi_lt M9_lt) (by decide)]
  refine ct_cong (fun k hk => ?_)
  rw [mi_bit, M9_bit hk]
  unfold p9
  rw [Bool.and_comm]
theorem encloses_spec (r : RX land there near worn c t) (hu : u < 10) {P : Int32 → Prop} (h : P 1) : q_L_encloses (nI u) land P := by
  unfold q_L_encloses
  refine enc_5 r hu ?_ 36 0 (by decide) (fun i hi => by rw [Nat.zero_testBit] at hi; cases hi) (by omega)
  refine ⟨37, enc_177 r hu ?_ 36 0 rfl⟩
  refine z_enclosed r hu ?_
  rw [encl_p9]
  exact ⟨fun q => absurd rfl q, fun _ => ⟨xb1, h⟩⟩
end EN
