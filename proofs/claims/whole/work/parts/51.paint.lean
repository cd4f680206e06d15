/-! the pure side: painting, the reference and the cases -/
theorem bx5 {p : Int32} (h : badX p) : p < 0 ∨ (5 : Int32) < p := by
  rcases h with h | h
  · exact Or.inl h
  · refine Or.inr ?_
    rw [Int32.lt_iff_toInt_lt]
    rw [Int32.le_iff_toInt_le] at h
    have e1 : (6 : Int32).toInt = 6 := by decide
    have e2 : (5 : Int32).toInt = 5 := by decide
    omega
theorem in6 {k : Nat} (hk : k < 6) {P : Int32 → Prop} (hp : P 1) : q_X1_in (nI k) 0 5 P := in_ok (nI_pos (by omega)) (nI_nlt (a := 5) (b := k) (by omega) (by decide)) hp
theorem isX_bad {p q : Int32} (h : badX p ∨ badX q) {P : Int32 → Prop} (hp : P 0) : q_X1_isCell p q P := by
  unfold q_X1_isCell
  rcases allX p with h1 | ⟨k, hk, rfl⟩
  · exact in_bad (bx5 h1) ⟨fun _ => ⟨xb0, hp⟩, fun q => absurd rfl q⟩
  · have hq : badX q := by
      rcases h with h | h
      · exact (not_badX hk h).elim
      · exact h
    exact in6 hk ⟨fun q => absurd q (by decide), fun _ => in_bad (bx5 hq) ⟨fun _ => ⟨xb0, hp⟩, fun q => absurd rfl q⟩⟩
theorem isX_ok {k j : Nat} (hk : k < 6) (hj : j < 6) {P : Int32 → Prop} (hp : P 1) : q_X1_isCell (nI k) (nI j) P :=
  in6 hk ⟨fun q => absurd q (by decide), fun _ => in6 hj ⟨fun q => absurd q (by decide), fun _ => ⟨xb1, hp⟩⟩⟩
theorem cs_ok {v : Nat} (hv : v ≤ 10) {J1 : Prop} {J0 : Prop} (h : J1) : xj0 J1 (fun (J9 : Prop) => ((cv v = (-1 : Int32) → J9) ∧ (¬ cv v = (-1 : Int32) → q_X1_isCountry (cv v) (fun (r10 : Int32) => ((r10 = (0 : Int32) → J0) ∧ (¬ r10 = (0 : Int32) → J9)))))) := by
  refine xj0_i (fun J9 h9 => ⟨fun _ => h9, fun q => ?_⟩) h
  have : v < 10 := by
    rcases Nat.lt_or_ge v 10 with a | a
    · exact a
    · exact absurd ((cv_m1 hv).mpr (by omega)) q
  rw [cv_n this]
  exact isC_ok this ⟨fun q => absurd q (by decide), fun _ => h9⟩
theorem cs_bad {p : Int32} (hp : badP p) {J1 : Prop} {J0 : Prop} (h : J0) : xj0 J1 (fun (J9 : Prop) => ((p = (-1 : Int32) → J9) ∧ (¬ p = (-1 : Int32) → q_X1_isCountry p (fun (r10 : Int32) => ((r10 = (0 : Int32) → J0) ∧ (¬ r10 = (0 : Int32) → J9)))))) :=
  xj0_u fun J9 => ⟨fun q => absurd q hp.1, fun _ => isC_bad hp.2 ⟨fun _ => h, fun q => absurd rfl q⟩⟩
theorem cv_bool (p : Int32) : p = -1 ∨ p ≠ -1 := Decidable.em _
theorem X1_paint_bad1 {p q w : Int32} {cel : Nat → Int32} {P : Int32 → (Nat → Int32) → Int32 → Prop} (h : badX p ∨ badX q) (hP : P 0 cel 1) : q_X1_paint p q w cel P := by
  unfold q_X1_paint
  refine isX_bad h ?_
  rcases allP w with hw | ⟨v, hv, rfl⟩
  · exact xj1_i 0 (fun J hJ => cs_bad hw hJ) (goes_0 ⟨fun q => absurd rfl q, fun _ => hP⟩)
  · exact xj1_i 1 (fun J hJ => cs_ok hv hJ) (goes_0 ⟨fun q => absurd rfl q, fun _ => hP⟩)
theorem X1_paint_bad2 {k j : Nat} (hk : k < 6) (hj : j < 6) {w : Int32} {cel : Nat → Int32} {P : Int32 → (Nat → Int32) → Int32 → Prop} (hw : badP w) (hP : P 0 cel 2) : q_X1_paint (nI k) (nI j) w cel P := by
  unfold q_X1_paint
  exact isX_ok hk hj (xj1_i 0 (fun J hJ => cs_bad hw hJ) (goes_10 ⟨fun q => absurd rfl q, fun _ => hP⟩))
theorem X1_paints_spec {n v : Nat} (hn : n < 36) {c : Nat → Nat} (hcn : c n ≤ 10) (hv : v ≤ 10) {cel : Nat → Int32} (e : cel n = cv (c n)) {P : Int32 → (Nat → Int32) → Prop} (hP : P (nI (if c n = v then 0 else 1)) (upd cel n (cv v))) : q_X1_paints (nI n) (cv v) cel P := by
  have xk := xin_nI hn (by decide)
  refine ⟨xk, xl_i ⟨xk, ?_⟩⟩
  rw [nI_clamp (n := n) (by omega), e, cv_inj hcn hv]
  refine ⟨fun q => ?_, fun q => ?_⟩
  · rw [if_neg q] at hP; exact hP
  · rw [if_pos q] at hP; exact hP
theorem X1_paint_ok {k j v : Nat} (hk : k < 6) (hj : j < 6) (hv : v ≤ 10) {c : Nat → Nat} (hb : ∀ i, i < 36 → c i ≤ 10) {cel : Nat → Int32} (hc : ∀ i, i < 36 → cel i = cv (c i)) {P : Int32 → (Nat → Int32) → Int32 → Prop} (hP : P (cv (c (6 * k + j))) (upd cel (6 * k + j) (cv v)) 0) : q_X1_paint (nI k) (nI j) (cv v) cel P := by
  unfold q_X1_paint
  refine isX_ok hk hj (xj1_i 1 (fun J hJ => cs_ok hv hJ) (goes_111 ⟨fun _ => ?_, fun q => absurd q (by decide)⟩))
  rw [show (6 : Int32) = nI 6 from rfl, pI_mul, nI_add]
  have hn : 6 * k + j < 36 := by omega
  refine ⟨xin_nI hn (by decide), xl_i ?_⟩
  rw [nI_clamp (n := 6 * k + j) (by omega), hc _ hn]
  exact X1_paints_spec hn (hb _ hn) hv (hc _ hn) hP
theorem bk_one {k j i : Nat} (hj : j < 6) : bk k j k j i = decide (i = 6 * k + j) := decide_eq_decide.mpr (by omega)
theorem X0_paint_a {c : Nat → Nat} {land : Nat → Int64} {near : Nat → Int32} (hl : ∀ k, k < 10 → land k = lN (ld_S c k)) (hb : ∀ i, i < 36 → c i ≤ 10) {p q w : Int32} {P : Int32 → (Nat → Int64) → Int32 → (Nat → Int32) → Prop} {T : String → Prop} (hT1 : badX p ∨ badX q → T "java/lang/IndexOutOfBoundsException") (hT2 : ∀ k j, k < 6 → j < 6 → p = nI k → q = nI j → badP w → T "java/lang/IllegalArgumentException") (hP : ∀ k j v, k < 6 → j < 6 → v ≤ 10 → p = nI k → q = nI j → w = cv v → ∀ land' near', (∀ l, l < 10 → land' l = lN (ld_S (pt c (bk k j k j) v) l)) → (∀ l, l < 10 → near' l = nI (ne_S (pt c (bk k j k j) v) l)) → P (cv (c (6 * k + j))) land' (nI (th_S (pt c (bk k j k j) v))) near') : q_X0_paint p q w land near P T := by
  unfold q_X0_paint
  rcases allX p with hp | ⟨k, hk, rfl⟩
  · exact chkX_bad (Or.inl hp) (hT1 (Or.inl hp))
  rcases allX q with hq | ⟨j, hj, rfl⟩
  · exact chkX_bad (Or.inr hq) (hT1 (Or.inr hq))
  refine chkX_ok hk hj ?_
  rcases allP w with hw | ⟨v, hv, rfl⟩
  · exact chkP_bad hw (hT2 k j hk hj rfl rfl hw)
  refine chkP_ok hv (block_spec (Nat.le_refl _) hk (Nat.le_refl _) hj (fun a ha hab => ?_))
  have hn : 6 * k + j < 36 := by omega
  refine ownerOf_spec hl hn (hb _ hn) (fun i hi => (hab i hi).trans (bk_one hj)) ?_
  exact cover_spec hl ha hab hv (fun land' near' h1 h2 => hP k j v hk hj hv rfl rfl rfl land' near' h1 h2)
theorem rel_paint {land : Nat → Int64} {there : Int32} {near worn mcel mtint : Nat → Int32} {c t : Nat → Nat} (r : RelX land there near worn mcel mtint c t) {b : Nat → Bool} {v : Nat} (hv : v ≤ 10) {land' : Nat → Int64} {near' mcel' : Nat → Int32} (h1 : ∀ l, l < 10 → land' l = lN (ld_S (pt c b v) l)) (h2 : ∀ l, l < 10 → near' l = nI (ne_S (pt c b v) l)) (h3 : ∀ i, i < 36 → mcel' i = cv (pt c b v i)) : RelX land' (nI (th_S (pt c b v))) near' worn mcel' mtint (pt c b v) t := by
  obtain ⟨hb, ht, hl, hth, hn, hw, hc, hm⟩ := r
  refine ⟨fun i hi => ?_, ht, h1, rfl, h2, hw, h3, hm⟩
  unfold pt
  split
  · exact hv
  · exact hb i hi
theorem X0_countryAt_a {c : Nat → Nat} {land : Nat → Int64} (hl : ∀ k, k < 10 → land k = lN (ld_S c k)) (hb : ∀ i, i < 36 → c i ≤ 10) {p q : Int32} {P : Int32 → Prop} {T : String → Prop} (hT : badX p ∨ badX q → T "java/lang/IndexOutOfBoundsException") (hP : ∀ k j, k < 6 → j < 6 → p = nI k → q = nI j → P (cv (c (6 * k + j)))) : q_X0_countryAt p q land P T := by
  unfold q_X0_countryAt
  rcases allX p with hp | ⟨k, hk, rfl⟩
  · exact chkX_bad (Or.inl hp) (hT (Or.inl hp))
  rcases allX q with hq | ⟨j, hj, rfl⟩
  · exact chkX_bad (Or.inr hq) (hT (Or.inr hq))
  refine chkX_ok hk hj (block_spec (Nat.le_refl _) hk (Nat.le_refl _) hj (fun a ha hab => ?_))
  have hn : 6 * k + j < 36 := by omega
  exact ownerOf_spec hl hn (hb _ hn) (fun i hi => (hab i hi).trans (bk_one hj)) (hP k j hk hj rfl rfl)
theorem X1_countryAt_ok {k j : Nat} (hk : k < 6) (hj : j < 6) {c : Nat → Nat} {cel : Nat → Int32} (hc : ∀ i, i < 36 → cel i = cv (c i)) {P : Int32 → Int32 → Prop} (hP : P (cv (c (6 * k + j))) 0) : q_X1_countryAt (nI k) (nI j) cel P := by
  unfold q_X1_countryAt
  refine isX_ok hk hj (goes_111 ⟨fun q => absurd q (by decide), fun _ => ?_⟩)
  rw [show (6 : Int32) = nI 6 from rfl, pI_mul, nI_add]
  have hn : 6 * k + j < 36 := by omega
  refine ⟨xin_nI hn (by decide), ?_⟩
  rw [nI_clamp (n := 6 * k + j) (by omega), hc _ hn]
  exact hP
theorem X1_countryAt_bad {p q : Int32} (h : badX p ∨ badX q) {cel : Nat → Int32} {P : Int32 → Int32 → Prop} (hP : P 0 1) : q_X1_countryAt p q cel P :=
  isX_bad h (goes_0 ⟨fun _ => hP, fun q => absurd rfl q⟩)
section CASES
variable {L : Nat} {xs : Nat → Int32} {rec9 : recT} {i : Int32} {land : Nat → Int64} {there : Int32} {near : Nat → Int32} {worn : Nat → Int32} {trial : Nat → Int32} {fits : Nat → Int32} {ways : Nat → Int64} {joined : Nat → Nat → Int32} {mcel : Nat → Int32} {mtint : Nat → Int32} {mcells : Nat → Int64} {mnear : Nat → Int32} {mthere : Int32} {mways : Nat → Int64} {mmore : Nat → Int64} {mthrown : Int32} {out : Nat → Int64} {c t : Nat → Nat}
theorem case0 (hx : xin (i + (1 : Int32)) L = true) (hx2 : xin (i + (2 : Int32)) L = true) (hx3 : xin (i + (3 : Int32)) L = true) (r : RelX land there near worn mcel mtint c t) (hr : RecOK rec9 i) : q_L_case0 L xs rec9 i land there near worn trial fits ways joined mcel mtint mcells mnear mthere mways mmore mthrown out := by
  obtain ⟨hb, ht, hl, hth, hn, hw, hc, hm⟩ := id r
  unfold q_L_case0 q_L_paint
  refine ⟨hx, hx2, hx3, ?_⟩
  generalize xs (i + (1 : Int32)).toNatClampNeg = p
  generalize xs (i + (2 : Int32)).toNatClampNeg = q
  generalize xs (i + (3 : Int32)).toNatClampNeg = w
  refine X0_paint_a hl hb (fun hB => Or.inl ⟨rfl, hx, hx2, hx3, X1_paint_bad1 hB ?_⟩) (fun k j hk hj e1 e2 hB => Or.inr ⟨rfl, hx, hx2, hx3, ?_⟩) (fun k j v hk hj hv e1 e2 e3 land' near' h1 h2 => ⟨hx, hx2, hx3, ?_⟩)
  · exact thr (end_ex (by decide) (hr _ _ _ _ _ _ _ _ _ _ _ _ _ _ _ _ _ c t r))
  · subst e1 e2
    exact X1_paint_bad2 hk hj hB (thr (end_ex (by decide) (hr _ _ _ _ _ _ _ _ _ _ _ _ _ _ _ _ _ c t r)))
  · subst e1 e2 e3
    refine X1_paint_ok hk hj hv hb hc ?_
    have r2 := rel_paint (b := bk k j k j) r hv (mcel' := upd mcel (6 * k + j) (cv v)) h1 h2 (fun i hi => by
      unfold pt
      rw [bk_one hj]
      by_cases e : i = 6 * k + j
      · subst e; rw [upI_s, if_pos (decide_eq_true rfl)]
      · rw [upI_n e, hc i hi, if_neg (by rw [decide_eq_false e]; decide)])
    exact thr (end_ok (hr _ _ _ _ _ _ _ _ _ _ _ _ _ _ _ _ _ _ _ r2))
theorem case2 (hx : xin (i + (1 : Int32)) L = true) (hx2 : xin (i + (2 : Int32)) L = true) (r : RelX land there near worn mcel mtint c t) (hr : RecOK rec9 i) : q_L_case2 L xs rec9 i land there near worn trial fits ways joined mcel mtint mcells mnear mthere mways mmore mthrown out := by
  obtain ⟨hb, ht, hl, hth, hn, hw, hc, hm⟩ := id r
  unfold q_L_case2 q_L_countryAt
  refine ⟨hx, hx2, ?_⟩
  generalize xs (i + (1 : Int32)).toNatClampNeg = p
  generalize xs (i + (2 : Int32)).toNatClampNeg = q
  refine X0_countryAt_a hl hb (fun hB => ⟨rfl, hx, hx2, X1_countryAt_bad hB ?_⟩) (fun k j hk hj e1 e2 => ⟨hx, hx2, ?_⟩)
  · exact thr (end_ex (by decide) (hr _ _ _ _ _ _ _ _ _ _ _ _ _ _ _ _ _ c t r))
  · subst e1 e2
    exact X1_countryAt_ok hk hj hc (thr (end_ok (hr _ _ _ _ _ _ _ _ _ _ _ _ _ _ _ _ _ c t r)))
end CASES
