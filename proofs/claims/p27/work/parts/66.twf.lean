/-! the pure side: tintWithFewest -/
theorem twf_L7 {S : Nat} {b t : Nat → Nat} {trial : Nat → Int32} (htr : ∀ i, i < 10 → S.testBit i = true → trial i = nI (b i)) {P0 : (Nat → Int32) → Prop} (h : ∀ w, (∀ i, i < 10 → w i = nI (if S.testBit i = true then b i else t i)) → P0 w) : ∀ (d k : Nat) (w : Nat → Int32), k + d = 10 → (∀ i, i < 10 → w i = nI (if i < k ∧ S.testBit i = true then b i else t i)) → q_X0_tintWithFewest_L7 (nI S) trial P0 (d + 1) (nI k) w := by
  intro d
  induction d with
  | zero =>
    intro k w hk e
    have : k = 10 := by omega
    subst this
    rw [q_X0_tintWithFewest_L7]
    refine ⟨fun _ => h w (fun i hi => ?_), fun q => absurd (by decide) q⟩
    rw [e i hi]
    by_cases q : S.testBit i = true
    · rw [if_pos ⟨hi, q⟩, if_pos q]
    · rw [if_neg (fun z => q z.2), if_neg q]
  | succ d ih =>
    intro k w hk e
    have xk := xin_nI (show k < 10 by omega) (by decide)
    rw [q_X0_tintWithFewest_L7]
    refine ⟨fun q => absurd q (ge10 (by omega)), fun _ => has_spec (by omega) (fun q => ⟨fun _ => ?_, fun z => absurd rfl z⟩) (fun q => ⟨fun z => absurd z (by decide), fun _ => ⟨xk, xk, ?_⟩⟩)⟩
    · rw [nI_1]
      refine ih (k + 1) w (by omega) (fun i hi => ?_)
      rw [e i hi]
      by_cases z : i < k ∧ S.testBit i = true
      · rw [if_pos z, if_pos ⟨by omega, z.2⟩]
      · rw [if_neg z, if_neg (fun y => ?_)]
        rcases Nat.lt_succ_iff_lt_or_eq.mp y.1 with x | x
        · exact z ⟨x, y.2⟩
        · rw [x, q] at y; cases y.2
    · rw [nI_clamp (n := k) (by omega), htr k (by omega) q, nI_1]
      refine ih (k + 1) _ (by omega) (fun i hi => ?_)
      by_cases z : i = k
      · subst z; rw [upI_s, if_pos ⟨by omega, q⟩]
      · rw [upI_n z, e i hi]
        by_cases y : i < k ∧ S.testBit i = true
        · rw [if_pos y, if_pos ⟨by omega, y.2⟩]
        · rw [if_neg y, if_neg (fun x => y ⟨by omega, x.2⟩)]
theorem best_uniq {n : Nat → Nat} {t S : Nat} {a b1 b2 : Nat → Nat} (h1 : Best n t S 0 a b1) (h2 : Best n t S 0 a b2) : ∀ i, i < 10 → S.testBit i = true → b1 i = b2 i := by
  rcases h1.2 b2 h2.1 with e | ⟨m, m1, m2, m3, m4⟩
  · exact fun i hi q => (e i hi q).symm
  rcases h2.2 b1 h1.1 with e | ⟨l, l1, l2, l3, l4⟩
  · exact e
  exfalso
  rcases Nat.lt_trichotomy m l with q | q | q
  · have := l3 m q m2; omega
  · subst q; omega
  · have := m3 l q l2; omega
theorem upd_upd {f : Nat → Int32} {k : Nat} {x y : Int32} : upd (upd f k x) k y = upd f k y := funext fun j => by
  by_cases q : j = k
  · subst q; rw [upI_s, upI_s]
  · rw [upI_n q, upI_n q, upI_n q]
/-- no neighbour before it has the tint -/
def ap (n a : Nat → Nat) (k y j : Nat) : Bool := al (fun i => !(n k).testBit i || decide (a i ≠ y)) j
theorem least_y {p : Nat → Bool} {t : Nat} : ∀ (e x : Nat), x + e = t + 1 → ∃ y, x ≤ y ∧ y ≤ t + 1 ∧ (y ≤ t → p y = true) ∧ ∀ z, x ≤ z → z < y → p z = false
  | 0, x, h => ⟨x, Nat.le_refl _, by omega, fun q => by omega, fun z h1 h2 => by omega⟩
  | e + 1, x, h => by
    cases q : p x with
    | true => exact ⟨x, Nat.le_refl _, by omega, fun _ => q, fun z h1 h2 => by omega⟩
    | false =>
      obtain ⟨y, h1, h2, h3, h4⟩ := least_y (p := p) (t := t) e (x + 1) (by omega)
      refine ⟨y, by omega, h2, h3, fun z z1 z2 => ?_⟩
      by_cases e : z = x
      · rw [e]; exact q
      · exact h4 z (by omega) z2
theorem up_ex {S : Nat} : ∀ (d k : Nat), k + d = 10 → ∃ m, k ≤ m ∧ m ≤ 10 ∧ (m < 10 → S.testBit m = true) ∧ ∀ i, k ≤ i → i < m → S.testBit i = false
  | 0, k, h => ⟨k, Nat.le_refl _, by omega, fun q => by omega, fun i h1 h2 => by omega⟩
  | d + 1, k, h => by
    cases q : S.testBit k with
    | true => exact ⟨k, Nat.le_refl _, by omega, fun _ => q, fun i h1 h2 => by omega⟩
    | false =>
      obtain ⟨m, h1, h2, h3, h4⟩ := up_ex (S := S) d (k + 1) (by omega)
      refine ⟨m, by omega, h2, h3, fun i i1 i2 => ?_⟩
      by_cases e : i = k
      · rw [e]; exact q
      · exact h4 i (by omega) i2
theorem nI_m1 (k : Nat) : nI (k + 1) + (-1 : Int32) = nI k := by
  have := nI_pred k
  rw [Int32.sub_eq_add_neg] at this
  exact this
section OD
variable {n : Nat → Nat} {near : Nat → Int32} {S t : Nat}
def BX (n : Nat → Nat) (t S k : Nat) (a : Nat → Nat) (x : Nat) (b : Nat → Nat) : Prop := Ext n t S k a b ∧ x < b k ∧ ∀ col, Ext n t S k a col → x < col k → Lx S b col
def EX (n : Nat → Nat) (t S k : Nat) (a : Nat → Nat) (x : Nat) : Prop := ∃ col, Ext n t S k a col ∧ x < col k
end OD
