theorem bt_raw : ∀ h : Fin 32, ∀ l : Fin 32, ∀ k : Fin 10, decide (((nI (32 * h.val + l.val) >>> (nI k.val &&& 31)) &&& (1 : Int32)) = (1 : Int32)) = (32 * h.val + l.val).testBit k.val := by decide +kernel
theorem pI_tb {a k : Nat} (ha : a < 1024) (hk : k < 10) : ((nI a >>> (nI k &&& 31)) &&& (1 : Int32)) = (1 : Int32) ↔ a.testBit k = true := by
  have := bt_raw ⟨a / 32, by omega⟩ ⟨a % 32, by omega⟩ ⟨k, hk⟩
  rw [show 32 * (a / 32) + a % 32 = a from by omega] at this
  rw [← this, decide_eq_true_iff]
def wr (t : Nat → Nat) (v : Nat) : Nat := so (fun j => decide (t j = v)) 10
theorem wr_lt (t : Nat → Nat) (v : Nat) : wr t v < 1024 := so_lt _ 10
theorem wr_bit {t : Nat → Nat} {v j : Nat} (hj : j < 10) : (wr t v).testBit j = decide (t j = v) := by
  unfold wr; rw [so_bit, decide_eq_true hj, Bool.true_and]
theorem wear_L {t : Nat → Nat} {worn : Nat → Int32} {v : Nat} (hw : ∀ k, k < 10 → worn k = nI (t k)) (hb : ∀ k, k < 10 → t k ≤ 10) (hv : v ≤ 10) {P : Int32 → Prop} (h : P (nI (wr t v))) : ∀ (d k : Nat), k + d = 10 → q_X0_wearing_L4 (nI v) worn P (d + 1) (nI (so (fun j => decide (t j = v)) k)) (nI k) := by
  intro d
  induction d with
  | zero =>
    intro k hk
    have : k = 10 := by omega
    subst this
    rw [q_X0_wearing_L4]
    exact ⟨fun _ => h, fun q => absurd (by decide) q⟩
  | succ d ih =>
    intro k hk
    have hkb := hb k (by omega)
    have := ih (k + 1) (by omega)
    rw [q_X0_wearing_L4]
    refine ⟨fun q => absurd q (ge10 (by omega)), fun _ => ⟨xin_nI (by omega) (by decide), ?_⟩⟩
    rw [nI_clamp (by omega), hw k (by omega), pI_inj (by omega) (by omega), nI_1]
    refine ⟨fun q => ?_, fun q => xl_i ?_⟩
    · rw [so_s_f (decide_eq_false q)] at this; exact this
    · rw [so_s_t (decide_eq_true q)] at this
      rw [pI_bit (by omega), pI_or]; exact this
theorem X0_wearing_spec {t : Nat → Nat} {worn : Nat → Int32} {v : Nat} (hw : ∀ k, k < 10 → worn k = nI (t k)) (hb : ∀ k, k < 10 → t k ≤ 10) (hv : v ≤ 10) {P : Int32 → Prop} (h : P (nI (wr t v))) : q_X0_wearing (nI v) worn P := ⟨11, wear_L hw hb hv h 10 0 rfl⟩
theorem pig {N : Nat → Bool} {t : Nat → Nat} : ∀ m, (∀ v, 1 ≤ v → v ≤ m → ∃ j, j < 10 ∧ N j = true ∧ t j = v) → m ≤ ct (fun j => N j && decide (1 ≤ t j ∧ t j ≤ m)) 10 := by
  intro m
  induction m with
  | zero => intro _; exact Nat.zero_le _
  | succ m ih =>
    intro h
    obtain ⟨j, hj, h1, h2⟩ := h (m + 1) (by omega) (by omega)
    refine Nat.lt_of_le_of_lt (ih fun v h1 h2 => h v h1 (by omega)) (ct_lt hj (fun k _ q => ?_) ?_ ?_)
    · rw [Bool.and_eq_true, decide_eq_true_iff] at q ⊢
      exact ⟨q.1, by omega⟩
    · rw [h1, h2, Bool.true_and]; exact decide_eq_false (by omega)
    · rw [h1, h2, Bool.true_and]; exact decide_eq_true (by omega)
def taken (N : Nat) (t : Nat → Nat) (v : Nat) : Prop := ∃ j, j < 10 ∧ N.testBit j = true ∧ t j = v
theorem wr_taken {N : Nat} {t : Nat → Nat} {v : Nat} : wr t v &&& N = 0 ↔ ¬ taken N t v := by
  rw [set_zero (n := 10) (and_lt (wr_lt t v))]
  constructor
  · rintro h ⟨j, hj, h1, h2⟩
    have := h j hj
    rw [Nat.testBit_and, wr_bit hj, h1, h2] at this
    simp at this
  · intro h k hk
    rw [Nat.testBit_and, wr_bit hk]
    cases q : N.testBit k with
    | false => exact Bool.and_false _
    | true =>
      rw [Bool.and_true]
      exact decide_eq_false fun e => h ⟨k, hk, q, e⟩
def lstep (N : Nat) (tint : Nat → Int32) (R : Int32 → Int32 → Prop) (x2 x3 : Int32) : Prop := xj1 (fun (v2 : Int32) => xj1 (fun (v4 : Int32) => xl (x2 + v4) (fun y5 => ((v2 = (0 : Int32) → xl (x3 + (1 : Int32)) (fun y6 => R y5 y6)) ∧ (¬ v2 = (0 : Int32) → R y5 (0 : Int32))))) (fun (J3 : Int32 → Prop) => ((v2 = (0 : Int32) → J3 (0 : Int32)) ∧ (¬ v2 = (0 : Int32) → J3 (1 : Int32))))) (fun (J1 : Int32 → Prop) => xj0 (J1 (0 : Int32)) (fun (J7 : Prop) => ((¬ ((nI N >>> (x3 &&& 31)) &&& (1 : Int32)) = (1 : Int32) → J7) ∧ (((nI N >>> (x3 &&& 31)) &&& (1 : Int32)) = (1 : Int32) → xin x3 10 = true ∧ ((¬ (tint x3.toNatClampNeg) = x2 → J7) ∧ ((tint x3.toNatClampNeg) = x2 → J1 (1 : Int32)))))))
theorem xj0_u {rest : Prop} {tree : Prop → Prop} (h : ∀ J : Prop, tree J) : xj0 rest tree := h rest
theorem lf_ex {N : Nat} {t : Nat → Nat} (h9 : ct N.testBit 10 ≤ 9) : ∃ f, 1 ≤ f ∧ f ≤ 10 ∧ ¬ taken N t f ∧ ∀ v, 1 ≤ v → v < f → taken N t v := by
  have key : ∀ m, m ≤ 10 → (∀ v, 1 ≤ v → v ≤ m → taken N t v) ∨ ∃ f, 1 ≤ f ∧ f ≤ m ∧ ¬ taken N t f ∧ ∀ v, 1 ≤ v → v < f → taken N t v := by
    intro m
    induction m with
    | zero => intro _; exact Or.inl fun v h1 h2 => absurd h1 (by omega)
    | succ m ih =>
      intro hm
      rcases ih (by omega) with h | ⟨f, h1, h2, h3, h4⟩
      · rcases Classical.em (taken N t (m + 1)) with q | q
        · refine Or.inl fun v h1 h2 => ?_
          rcases Nat.lt_or_ge v (m + 1) with a | a
          · exact h v h1 (by omega)
          · rw [show v = m + 1 from by omega]; exact q
        · exact Or.inr ⟨m + 1, by omega, Nat.le_refl _, q, fun v h1 h2 => h v h1 (by omega)⟩
      · exact Or.inr ⟨f, h1, by omega, h3, h4⟩
  rcases key 10 (Nat.le_refl _) with h | h
  · have h1 := pig (N := N.testBit) (t := t) 10 h
    have h2 : ct (fun j => N.testBit j && decide (1 ≤ t j ∧ t j ≤ 10)) 10 ≤ ct N.testBit 10 := ct_sub fun k _ q => by rw [Bool.and_eq_true] at q; exact q.1
    omega
  · exact h
theorem X0_free_L {N f : Nat} {t : Nat → Nat} {worn : Nat → Int32} (hw : ∀ k, k < 10 → worn k = nI (t k)) (hb : ∀ k, k < 10 → t k ≤ 10) (f2 : f ≤ 10) (hf : ¬ taken N t f) (hl : ∀ v, 1 ≤ v → v < f → taken N t v) {P : Int32 → Prop} (h : P (nI f)) : ∀ (d v : Nat), 1 ≤ v → v ≤ f → v + d = 10 → q_X0_leastFreeBeside_L2 (nI N) worn (P (10 : Int32)) P (d + 1) (nI v) := by
  intro d
  induction d with
  | zero =>
    intro v h1 h2 hv
    have e : v = 10 := by omega
    have e2 : f = 10 := by omega
    subst e
    subst e2
    rw [q_X0_leastFreeBeside_L2]
    exact ⟨fun _ => h, fun q => absurd (by decide) q⟩
  | succ d ih =>
    intro v h1 h2 hv
    rw [q_X0_leastFreeBeside_L2]
    refine ⟨fun q => absurd q (ge10 (by omega)), fun _ => X0_wearing_spec hw hb (by omega) ?_⟩
    have hlt : wr t v &&& N < 1024 := and_lt (n := 10) (wr_lt t v)
    rw [pI_and, pI_eq0 (by omega), wr_taken, nI_1]
    refine ⟨fun q => ?_, fun q => ?_⟩
    · have : taken N t v := Classical.not_not.mp q
      have : v ≠ f := fun e => hf (e ▸ this)
      exact ih (v + 1) (by omega) (by omega) (by omega)
    · have : v = f := by
        rcases Nat.lt_or_ge v f with a | a
        · exact absurd (hl v h1 a) q
        · omega
      rw [this]; exact h
theorem ne_9 (c : Nat → Nat) {k : Nat} (hk : k < 10) : ct (ne_S c k).testBit 10 ≤ 9 := by
  have h1 : ct (ne_S c k).testBit 10 < ct (fun _ => true) 10 := ct_lt hk (fun _ _ _ => rfl) (by unfold ne_S; rw [so_bit]; simp) rfl
  have := ct_le (fun _ => true) 10
  omega
