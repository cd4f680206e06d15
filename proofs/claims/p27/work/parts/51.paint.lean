/-! the pure side: painting, the reference and the cases -/
theorem bx5 {p : Int32} (h : badX p) : p < 0 ∨ (5 : Int32) < p := by
  rcases h with h | h
  · exact Or.inl h
  · refine Or.inr ?_
    rw [Int32.lt_iff_toInt_lt]
    rw [Int32.le_iff_toInt_le] at h
    have e1 : (6 : Int32).toInt = 6 := by decide
    have e2 : (5 : Int32).toInt = 5 := by decide
    omega
theorem cv_bool (p : Int32) : p = -1 ∨ p ≠ -1 := Decidable.em _
theorem bk_one {k j i : Nat} (hj : j < 6) : bk k j k j i = decide (i = 6 * k + j) := decide_eq_decide.mpr (by omega)
theorem X0_paint_a {c : Nat → Nat} {land : Nat → Int64} {near : Nat → Int32} (hl : ∀ k, k < 10 → land k = lN (ld_S c k)) (hb : ∀ i, i < 36 → c i ≤ 10) {p q w : Int32} {P : Int32 → (Nat → Int64) → Int32 → (Nat → Int32) → Prop} {T : String → Prop} (hT1 : badX p ∨ badX q → T "java/lang/IndexOutOfBoundsException") (hT2 : ∀ k j, k < 6 → j < 6 → p = nI k → q = nI j → badP w → T "java/lang/IllegalArgumentException") (hP : ∀ k j v, k < 6 → j < 6 → v ≤ 10 → p = nI k → q = nI j → w = cv v → ∀ land' near', (∀ l, l < 10 → land' l = lN (ld_S (pt c (bk k j k j) v) l)) → (∀ l, l < 10 → near' l = nI (ne_S (pt c (bk k j k j) v) l)) → P (cv (c (6 * k + j))) land' (nI (th_S (pt c (bk k j k j) v))) near') : q_X0_paint p q w land near P T := by
  unfold q_X0_paint
  rcases allX p with hp | ⟨k, hk, rfl⟩
  · exact chkX_bad (Or.inl hp) (hT1 (Or.inl hp))
  rcases allX q with hq | ⟨j, hj, rfl⟩
  · exact chkX_bad (Or.inr hq) (hT1 (Or.inr hq))
  refine chkX_ok hk hj ?_
  rcases allP w with hw | ⟨v, hv, rfl⟩
  · exact chkP_bad hw (hT2 k j hk hj rfl rfl hw)
  refine chkP_ok hv (block_spec (Nat.le_refl _) hk (Nat.le_refl _) hj (fun a ha hab => ?_))
  have hn : 6 * k + j < 36 := by omega
  refine ownerOf_spec hl hn (hb _ hn) (fun i hi => (hab i hi).trans (bk_one hj)) ?_
  exact cover_spec hl ha hab hv (fun land' near' h1 h2 => hP k j v hk hj hv rfl rfl rfl land' near' h1 h2)
theorem rel_paint {land : Nat → Int64} {there : Int32} {near worn mcel mtint : Nat → Int32} {c t : Nat → Nat} (r : RelX land there near worn mcel mtint c t) {b : Nat → Bool} {v : Nat} (hv : v ≤ 10) {land' : Nat → Int64} {near' mcel' : Nat → Int32} (h1 : ∀ l, l < 10 → land' l = lN (ld_S (pt c b v) l)) (h2 : ∀ l, l < 10 → near' l = nI (ne_S (pt c b v) l)) (h3 : ∀ i, i < 36 → mcel' i = cv (pt c b v i)) : RelX land' (nI (th_S (pt c b v))) near' worn mcel' mtint (pt c b v) t := by
  obtain ⟨hb, ht, hl, hth, hn, hw, hc, hm⟩ := r
  refine ⟨fun i hi => ?_, ht, h1, rfl, h2, hw, h3, hm⟩
  unfold pt
  split
  · exact hv
  · exact hb i hi
theorem X0_countryAt_a {c : Nat → Nat} {land : Nat → Int64} (hl : ∀ k, k < 10 → land k = lN (ld_S c k)) (hb : ∀ i, i < 36 → c i ≤ 10) {p q : Int32} {P : Int32 → Prop} {T : String → Prop} (hT : badX p ∨ badX q → T "java/lang/IndexOutOfBoundsException") (hP : ∀ k j, k < 6 → j < 6 → p = nI k → q = nI j → P (cv (c (6 * k + j)))) : q_X0_countryAt p q land P T := by
  unfold q_X0_countryAt
  rcases allX p with hp | ⟨k, hk, rfl⟩
  · exact chkX_bad (Or.inl hp) (hT (Or.inl hp))
  rcases allX q with hq | ⟨j, hj, rfl⟩
  · exact chkX_bad (Or.inr hq) (hT (Or.inr hq))
  refine chkX_ok hk hj (block_spec (Nat.le_refl _) hk (Nat.le_refl _) hj (fun a ha hab => ?_))
  have hn : 6 * k + j < 36 := by omega
  exact ownerOf_spec hl hn (hb _ hn) (fun i hi => (hab i hi).trans (bk_one hj)) (hP k j hk hj rfl rfl)
