/-! the pure side: painting, the class -/
theorem le_ltA {a b : Int32} (h : a ≤ b) (h2 : b < a) : False := by
  rw [Int32.lt_iff_toInt_lt] at h2
  rw [Int32.le_iff_toInt_le] at h
  omega
theorem ge6 {k : Nat} (h : k < 6) : ¬ (6 : Int32) ≤ nI k := nI_ge (b := 6) h (by decide)
def badX (p : Int32) : Prop := p < 0 ∨ (6 : Int32) ≤ p
theorem allX (p : Int32) : badX p ∨ ∃ k, k < 6 ∧ p = nI k := by
  rcases pk_ix p (n := 6) (by decide) with h | h | h
  · exact Or.inl (Or.inl h)
  · exact Or.inl (Or.inr h)
  · exact Or.inr h
theorem not_badX {k : Nat} (h : k < 6) (q : badX (nI k)) : False := by
  rcases q with q | q
  · exact nI_pos (by omega) q
  · exact ge6 h q
theorem not_badC {k : Nat} (h : k < 10) (q : badC (nI k)) : False := by
  rcases q with q | q
  · exact nI_pos (by omega) q
  · exact ge10 h q
theorem chkX_bad {p q : Int32} (h : badX p ∨ badX q) {Q : Prop} {T : String → Prop} (ht : T "java/lang/IndexOutOfBoundsException") : q_X0_checkCell p q Q T := by
  refine ⟨fun _ => ht, fun h1 => ⟨fun _ => ht, fun h2 => ⟨fun _ => ht, fun h3 => ⟨fun h4 => ?_, fun _ => ht⟩⟩⟩⟩
  rcases h with (h | h) | (h | h)
  · exact absurd h h1
  · exact absurd h h2
  · exact absurd h h3
  · exact (le_ltA h h4).elim
theorem chkX_ok {k j : Nat} (hk : k < 6) (hj : j < 6) {Q : Prop} {T : String → Prop} (h : Q) : q_X0_checkCell (nI k) (nI j) Q T :=
  ⟨fun q => absurd q (nI_pos (by omega)), fun _ => ⟨fun q => absurd q (ge6 hk), fun _ => ⟨fun q => absurd q (nI_pos (by omega)), fun _ => ⟨fun _ => h, fun q => absurd (nI_lt (b := 6) hj (by decide)) q⟩⟩⟩⟩
/-- sea, or a country, or neither -/
theorem cv10 : cv 10 = -1 := rfl
theorem cv_n {k : Nat} (h : k < 10) : cv k = nI k := if_neg (by omega)
theorem cv_m1 {v : Nat} (hv : v ≤ 10) : cv v = -1 ↔ v = 10 := by
  rw [← cv10]
  exact cv_inj hv (Nat.le_refl _)
def badP (p : Int32) : Prop := p ≠ -1 ∧ badC p
theorem allP (p : Int32) : badP p ∨ ∃ v, v ≤ 10 ∧ p = cv v := by
  rcases allC p with h | ⟨k, hk, rfl⟩
  · by_cases e : p = -1
    · exact Or.inr ⟨10, Nat.le_refl _, e⟩
    · exact Or.inl ⟨e, h⟩
  · exact Or.inr ⟨k, by omega, (cv_n hk).symm⟩
theorem chkP_bad {p : Int32} (h : badP p) {Q : Prop} {T : String → Prop} (ht : T "java/lang/IllegalArgumentException") : q_X0_checkPaint p Q T := by
  refine ⟨fun q => absurd q h.1, fun _ => ⟨fun _ => ht, fun h1 => ⟨fun h2 => ?_, fun _ => ht⟩⟩⟩
  rcases h.2 with h | h
  · exact absurd h h1
  · exact (le_ltA h h2).elim
theorem chkP_ok {v : Nat} (hv : v ≤ 10) {Q : Prop} {T : String → Prop} (h : Q) : q_X0_checkPaint (cv v) Q T := by
  refine ⟨fun _ => h, fun q => ?_⟩
  have : v < 10 := by
    rcases Nat.lt_or_ge v 10 with a | a
    · exact a
    · exact absurd ((cv_m1 hv).mpr (by omega)) q
  rw [cv_n this]
  exact ⟨fun q => absurd q (nI_pos (by omega)), fun _ => ⟨fun _ => h, fun q => absurd (nI_lt (b := 10) this (by decide)) q⟩⟩
theorem pI_mul (a b : Nat) : nI a * nI b = nI (a * b) := (Int32.ofNat_mul a b).symm
/-- the cells of a block -/
def bk (r1 c1 r2 c2 i : Nat) : Bool := decide (r1 ≤ i / 6 ∧ i / 6 ≤ r2 ∧ c1 ≤ i % 6 ∧ i % 6 ≤ c2)
theorem or_dec {a : Bool} {p q s : Prop} {i1 : Decidable p} {i2 : Decidable q} {i3 : Decidable s} (h : p ∨ q ↔ s) : ((a || decide p) || decide q) = (a || decide s) := by
  rw [Bool.or_assoc, ← Bool.decide_or]
  exact congrArg (a || ·) (decide_eq_decide.mpr h)
theorem block_L15 {c2 r : Nat} (hc2 : c2 < 6) (hr : r < 6) {P0 : Int64 → Prop} : ∀ (d cc a : Nat), cc + d = c2 + 1 → a < 2 ^ 36 → (∀ a', a' < 2 ^ 36 → (∀ i, i < 36 → a'.testBit i = (a.testBit i || decide (i / 6 = r ∧ cc ≤ i % 6 ∧ i % 6 ≤ c2))) → P0 (lN a')) → q_X0_block_L15 (nI c2) (nI r) P0 (d + 1) (lN a) (nI cc) := by
  intro d
  induction d with
  | zero =>
    intro cc a hd ha h
    rw [q_X0_block_L15]
    refine ⟨fun _ => h a ha (fun i _ => ?_), fun q => absurd (nI_lt (by omega) (by omega)) q⟩
    rw [decide_eq_false (by omega), Bool.or_false]
  | succ d ih =>
    intro cc a hd ha h
    rw [q_X0_block_L15]
    refine ⟨fun q => absurd q (nI_nlt (by omega) (by omega)), fun _ => xl_i ?_⟩
    rw [show (6 : Int32) = nI 6 from rfl, pI_mul, nI_add, pL_bit (by omega), pL_or, nI_1]
    have hp : (2 : Nat) ^ (r * 6 + cc) < 2 ^ 36 := Nat.pow_lt_pow_right (by decide) (by omega)
    refine ih (cc + 1) (a ||| 2 ^ (r * 6 + cc)) (by omega) (or_lt ha hp) (fun a' ha' hb' => h a' ha' fun i hi => ?_)
    rw [hb' i hi, Nat.testBit_or, Nat.testBit_two_pow]
    exact or_dec (by omega)
theorem block_L6 {c1 c2 r2 : Nat} (hc : c1 ≤ c2) (hc2 : c2 < 6) (hr2 : r2 < 6) {P0 : Int64 → Prop} : ∀ (d r a : Nat), r + d = r2 + 1 → a < 2 ^ 36 → (∀ a', a' < 2 ^ 36 → (∀ i, i < 36 → a'.testBit i = (a.testBit i || decide (r ≤ i / 6 ∧ i / 6 ≤ r2 ∧ c1 ≤ i % 6 ∧ i % 6 ≤ c2))) → P0 (lN a')) → q_X0_block_L6 (nI c1) (nI r2) (nI c2) P0 (d + 1) (lN a) (nI r) := by
  intro d
  induction d with
  | zero =>
    intro r a hd ha h
    rw [q_X0_block_L6]
    refine ⟨fun _ => h a ha (fun i _ => ?_), fun q => absurd (nI_lt (by omega) (by omega)) q⟩
    rw [decide_eq_false (by omega), Bool.or_false]
  | succ d ih =>
    intro r a hd ha h
    rw [q_X0_block_L6]
    refine ⟨fun q => absurd q (nI_nlt (by omega) (by omega)), fun _ => ⟨c2 + 1 - c1 + 1, block_L15 hc2 (by omega) (c2 + 1 - c1) c1 a (by omega) ha (fun a1 h1 h2 => ?_)⟩⟩
    rw [nI_1]
    refine ih (r + 1) a1 (by omega) h1 (fun a' ha' hb' => h a' ha' fun i hi => ?_)
    rw [hb' i hi, h2 i hi]
    exact or_dec (by omega)
theorem block_spec {r1 c1 r2 c2 : Nat} (hr : r1 ≤ r2) (hr2 : r2 < 6) (hc : c1 ≤ c2) (hc2 : c2 < 6) {P : Int64 → Prop} (h : ∀ a, a < 2 ^ 36 → (∀ i, i < 36 → a.testBit i = bk r1 c1 r2 c2 i) → P (lN a)) : q_X0_block (nI r1) (nI c1) (nI r2) (nI c2) P := by
  refine ⟨r2 + 1 - r1 + 1, block_L6 hc hc2 hr2 (r2 + 1 - r1) r1 0 (by omega) (by decide) (fun a' h1 h2 => h a' h1 fun i hi => ?_)⟩
  rw [h2 i hi, Nat.zero_testBit, Bool.false_or]
  rfl
theorem own_iff {c : Nat → Nat} {k a p : Nat} (hp : p < 36) (hbit : ∀ i, i < 36 → a.testBit i = decide (i = p)) : ld_S c k &&& a = 0 ↔ ¬ c p = k := by
  rw [set_zero (n := 36) (and_lt (ld_lt c k))]
  constructor
  · intro h e
    have := h p hp
    rw [Nat.testBit_and, ld_bit hp, hbit p hp, decide_eq_true e, decide_eq_true rfl] at this
    cases this
  · intro h i hi
    rw [Nat.testBit_and, ld_bit hi, hbit i hi]
    by_cases e : i = p
    · subst e
      rw [decide_eq_false h, Bool.false_and]
    · rw [decide_eq_false e, Bool.and_false]
theorem ownerOf_L {c : Nat → Nat} {land : Nat → Int64} (hl : ∀ k, k < 10 → land k = lN (ld_S c k)) {a p : Nat} (hp : p < 36) (hb : c p ≤ 10) (hbit : ∀ i, i < 36 → a.testBit i = decide (i = p)) {P : Int32 → Prop} (h : P (cv (c p))) : ∀ (d k : Nat), k + d = 10 → (∀ j, j < k → c p ≠ j) → q_X0_ownerOf_L2 (lN a) land (P (-1 : Int32)) P (d + 1) (nI k) := by
  intro d
  induction d with
  | zero =>
    intro k hk hj
    have : k = 10 := by omega
    subst this
    rw [q_X0_ownerOf_L2]
    have e : c p = 10 := by
      rcases Nat.lt_or_ge (c p) 10 with q | q
      · exact absurd rfl (hj _ q)
      · omega
    rw [e] at h
    exact ⟨fun _ => h, fun q => absurd (by decide) q⟩
  | succ d ih =>
    intro k hk hj
    rw [q_X0_ownerOf_L2]
    refine ⟨fun q => absurd q (ge10 (by omega)), fun _ => ⟨xin_nI (by omega) (by decide), ?_⟩⟩
    rw [nI_clamp (n := k) (by omega), hl k (by omega), pL_and, pcmp, show (0 : Int64) = lN 0 from rfl, pL_inj (Nat.lt_of_lt_of_le (and_lt (ld_lt c k)) (by decide)) (by decide), own_iff hp hbit, nI_1]
    refine ⟨fun q => ih (k + 1) (by omega) (fun j hj2 => ?_), fun q => ?_⟩
    · rcases Nat.lt_or_ge j k with z | z
      · exact hj j z
      · rw [show j = k from by omega]; exact q
    · have e : c p = k := Classical.not_not.mp q
      rw [e, cv_n (by omega)] at h
      exact h
theorem ownerOf_spec {c : Nat → Nat} {land : Nat → Int64} (hl : ∀ k, k < 10 → land k = lN (ld_S c k)) {a p : Nat} (hp : p < 36) (hb : c p ≤ 10) (hbit : ∀ i, i < 36 → a.testBit i = decide (i = p)) {P : Int32 → Prop} (h : P (cv (c p))) : q_X0_ownerOf (lN a) land P := ⟨11, ownerOf_L hl hp hb hbit h 10 0 rfl (fun j hj => absurd hj (Nat.not_lt_zero j))⟩
/-- the map once some cells are painted -/
def pt (c : Nat → Nat) (b : Nat → Bool) (v : Nat) : Nat → Nat := fun i => if b i then v else c i
theorem pt_ne {c : Nat → Nat} {b : Nat → Bool} {a v k : Nat} (ha : a < 2 ^ 36) (hab : ∀ i, i < 36 → a.testBit i = b i) (hk : k ≠ v) : mi (ld_S c k) a = ld_S (pt c b v) k := by
  refine set_eq (n := 36) (mi_lt (ld_lt c k)) (ld_lt _ k) (fun i hi => ?_)
  rw [mi_bit, ld_bit hi, ld_bit hi, hab i hi]
  unfold pt
  cases b i
  · simp
  · simp [Ne.symm hk]
theorem pt_eq {c : Nat → Nat} {b : Nat → Bool} {a v : Nat} (ha : a < 2 ^ 36) (hab : ∀ i, i < 36 → a.testBit i = b i) : mi (ld_S c v) a ||| a = ld_S (pt c b v) v := by
  refine set_eq (n := 36) (or_lt (mi_lt (ld_lt c v)) ha) (ld_lt _ v) (fun i hi => ?_)
  rw [Nat.testBit_or, mi_bit, ld_bit hi, ld_bit hi, hab i hi]
  unfold pt
  cases b i
  · simp
  · simp
theorem cover_L {c : Nat → Nat} {a : Nat} {P0 : (Nat → Int64) → Prop} (h : ∀ land2, (∀ j, j < 10 → land2 j = lN (mi (ld_S c j) a)) → P0 land2) : ∀ (d k : Nat) (land1 : Nat → Int64), k + d = 10 → (∀ j, j < 10 → land1 j = lN (if j < k then mi (ld_S c j) a else ld_S c j)) → q_X0_cover_L3 (lN a) P0 (d + 1) (nI k) land1 := by
  intro d
  induction d with
  | zero =>
    intro k land1 hk e
    have : k = 10 := by omega
    subst this
    rw [q_X0_cover_L3]
    refine ⟨fun _ => h land1 (fun j hj => ?_), fun q => absurd (by decide) q⟩
    rw [e j hj, if_pos hj]
  | succ d ih =>
    intro k land1 hk e
    have xk := xin_nI (show k < 10 by omega) (by decide)
    rw [q_X0_cover_L3]
    refine ⟨fun q => absurd q (ge10 (by omega)), fun _ => ⟨xk, xk, ?_⟩⟩
    rw [nI_clamp (n := k) (by omega), nI_1, e k (by omega), if_neg (by omega), pL_mi]
    refine ih (k + 1) _ (by omega) (fun j hj => ?_)
    by_cases q : j = k
    · subst q; rw [upL_s, if_pos (by omega)]
    · rw [upL_n q, e j hj]
      by_cases z : j < k
      · rw [if_pos z, if_pos (by omega)]
      · rw [if_neg z, if_neg (by omega)]
theorem cover_spec {c : Nat → Nat} {land : Nat → Int64} {near : Nat → Int32} (hl : ∀ k, k < 10 → land k = lN (ld_S c k)) {b : Nat → Bool} {a v : Nat} (ha : a < 2 ^ 36) (hab : ∀ i, i < 36 → a.testBit i = b i) (hv : v ≤ 10) {P : (Nat → Int64) → Int32 → (Nat → Int32) → Prop} (h : ∀ land' near', (∀ k, k < 10 → land' k = lN (ld_S (pt c b v) k)) → (∀ k, k < 10 → near' k = nI (ne_S (pt c b v) k)) → P land' (nI (th_S (pt c b v))) near') : q_X0_cover (lN a) (cv v) land near P := by
  refine ⟨11, cover_L (c := c) (fun land2 e2 => ?_) 10 0 land rfl (fun j hj => by rw [hl j hj, if_neg (Nat.not_lt_zero j)])⟩
  rcases Nat.lt_or_ge v 10 with hv2 | hv2
  · rw [cv_n hv2]
    have xk := xin_nI hv2 (by decide)
    refine ⟨fun q => absurd q (nI_pos (by omega)), fun _ => ⟨fun q => absurd q (ge10 hv2), fun _ => ⟨xk, xk, ?_⟩⟩⟩
    rw [nI_clamp (n := v) (by omega), e2 v hv2, pL_or, pt_eq ha hab]
    have hl3 : ∀ j, j < 10 → vp_updL land2 v (lN (ld_S (pt c b v) v)) j = lN (ld_S (pt c b v) j) := fun j hj => by
      by_cases q : j = v
      · subst q; rw [upL_s]
      · rw [upL_n q, e2 j hj, pt_ne ha hab q]
    exact findN_spec hl3 (fun near' h2 => h _ near' hl3 h2)
  · have e : v = 10 := by omega
    subst e
    have hl3 : ∀ j, j < 10 → land2 j = lN (ld_S (pt c b 10) j) := fun j hj => by rw [e2 j hj, pt_ne (v := 10) ha hab (by omega)]
    exact ⟨fun _ => findN_spec hl3 (fun near' h2 => h _ near' hl3 h2), fun q => absurd (by decide) q⟩
