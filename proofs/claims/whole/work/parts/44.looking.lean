/-! the pure side: the two states side by side; the calls that only look -/
abbrev recT : Type := Int32 → (Nat → Int64) → Int32 → (Nat → Int32) → (Nat → Int32) → (Nat → Int32) → (Nat → Int32) → (Nat → Int64) → (Nat → Nat → Int32) → (Nat → Int32) → (Nat → Int32) → (Nat → Int64) → (Nat → Int32) → Int32 → (Nat → Int64) → (Nat → Int64) → Int32 → (Nat → Int64) → Prop
def RelX (land : Nat → Int64) (there : Int32) (near worn mcel mtint : Nat → Int32) (c t : Nat → Nat) : Prop := (∀ i, i < 36 → c i ≤ 10) ∧ (∀ k, k < 10 → t k ≤ 10) ∧ (∀ k, k < 10 → land k = lN (ld_S c k)) ∧ there = nI (th_S c) ∧ (∀ k, k < 10 → near k = nI (ne_S c k)) ∧ (∀ k, k < 10 → worn k = nI (t k)) ∧ (∀ i, i < 36 → mcel i = cv (c i)) ∧ (∀ k, k < 10 → mtint k = nI (t k))
def RecOK (rec9 : recT) (i : Int32) : Prop := ∀ (land : Nat → Int64) (there : Int32) (near : Nat → Int32) (worn : Nat → Int32) (trial : Nat → Int32) (fits : Nat → Int32) (ways : Nat → Int64) (joined : Nat → Nat → Int32) (mcel : Nat → Int32) (mtint : Nat → Int32) (mcells : Nat → Int64) (mnear : Nat → Int32) (mthere : Int32) (mways : Nat → Int64) (mmore : Nat → Int64) (mthrown : Int32) (out : Nat → Int64) (c t : Nat → Nat), RelX land there near worn mcel mtint c t → rec9 (i + (6 : Int32)) land there near worn trial fits ways joined mcel mtint mcells mnear mthere mways mmore mthrown out
def badC (p : Int32) : Prop := p < 0 ∨ (10 : Int32) ≤ p
theorem allC (p : Int32) : badC p ∨ ∃ k, k < 10 ∧ p = nI k := by
  rcases pk_ix p (n := 10) (by decide) with h | h | h
  · exact Or.inl (Or.inl h)
  · exact Or.inl (Or.inr h)
  · exact Or.inr h
theorem xb0 : xbool 0 := rfl
theorem xb1 : xbool 1 := rfl
theorem chkC_bad {p : Int32} (h : badC p) {Q : Prop} {T : String → Prop} (ht : T "java/lang/IndexOutOfBoundsException") : q_X0_checkCountry p Q T := by
  refine ⟨fun _ => ht, fun h1 => ⟨fun h2 => ?_, fun _ => ht⟩⟩
  rcases h with h | h
  · exact absurd h h1
  · exact absurd h2 (by rw [Int32.lt_iff_toInt_lt]; rw [Int32.le_iff_toInt_le] at h; omega)
theorem chkC_ok {k : Nat} (hk : k < 10) {Q : Prop} {T : String → Prop} (h : Q) : q_X0_checkCountry (nI k) Q T := ⟨fun q => absurd q (nI_pos (by omega)), fun _ => ⟨fun _ => h, fun q => absurd (nI_lt (b := 10) hk (by decide)) q⟩⟩
theorem isC_bad {p : Int32} (h : badC p) {P : Int32 → Prop} (hp : P 0) : q_X1_isCountry p P := by
  refine ⟨fun _ => ⟨xb0, xb0, hp⟩, fun h1 => ⟨fun _ => ⟨xb0, xb0, hp⟩, fun h2 => ?_⟩⟩
  rcases h with h | h
  · exact absurd h h1
  · refine absurd ?_ h2
    rw [Int32.lt_iff_toInt_lt]
    rw [Int32.le_iff_toInt_le] at h
    have e1 : (10 : Int32).toInt = 10 := by decide
    have e2 : (9 : Int32).toInt = 9 := by decide
    omega
theorem isC_ok {k : Nat} (hk : k < 10) {P : Int32 → Prop} (hp : P 1) : q_X1_isCountry (nI k) P := ⟨fun q => absurd q (nI_pos (by omega)), fun _ => ⟨fun q => absurd q (nI_nlt (b := k) (a := 9) (by omega) (by decide)), fun _ => ⟨xb1, xb1, hp⟩⟩⟩
theorem goes_0 {p2 p3 : Int32} {P : Int32 → Int32 → Prop} (h : P 0 1) : q_X1_goes 0 p2 p3 P := xj1_i 1 (fun _ hJ => ⟨fun q => absurd rfl q, fun _ => hJ⟩) ⟨fun _ => ⟨xb0, h⟩, fun q => absurd q (by decide)⟩
theorem goes_10 {p3 : Int32} {P : Int32 → Int32 → Prop} (h : P 0 2) : q_X1_goes 1 0 p3 P := xj1_i 2 (fun _ hJ => ⟨fun _ => ⟨fun q => absurd rfl q, fun _ => hJ⟩, fun q => absurd q (by decide)⟩) ⟨fun _ => ⟨xb0, h⟩, fun q => absurd q (by decide)⟩
theorem goes_110 {P : Int32 → Int32 → Prop} (h : P 0 3) : q_X1_goes 1 1 0 P := xj1_i 3 (fun _ hJ => ⟨fun _ => ⟨fun _ => ⟨fun q => absurd rfl q, fun _ => hJ⟩, fun q => absurd q (by decide)⟩, fun q => absurd q (by decide)⟩) ⟨fun _ => ⟨xb0, h⟩, fun q => absurd q (by decide)⟩
theorem goes_111 {P : Int32 → Int32 → Prop} (h : P 1 0) : q_X1_goes 1 1 1 P := xj1_i 0 (fun _ hJ => ⟨fun _ => ⟨fun _ => ⟨fun _ => hJ, fun q => absurd q (by decide)⟩, fun q => absurd q (by decide)⟩, fun q => absurd q (by decide)⟩) ⟨fun q => absurd rfl q, fun _ => ⟨xb1, h⟩⟩
/-- the ends of a case of the law -/
theorem end_ok {A : Prop} {f : Nat → Int64} {b : Int64} (h : A) : (((0 : Int32) = (0 : Int32) → ((¬ (0 : Int32) = (0 : Int32) → A) ∧ ((0 : Int32) = (0 : Int32) → (((lg_cmp (vp_updL f (0 : Int32).toNatClampNeg b (0 : Int32).toNatClampNeg) b) = (0 : Int32) → A) ∧ (¬ (lg_cmp (vp_updL f (0 : Int32).toNatClampNeg b (0 : Int32).toNatClampNeg) b) = (0 : Int32) → False))))) ∧ (¬ (0 : Int32) = (0 : Int32) → False)) :=
  ⟨fun _ => ⟨fun q => absurd rfl q, fun _ => ⟨fun _ => h, fun q => q (pcmp.mpr upL_s)⟩⟩, fun q => q rfl⟩
theorem end_ex {A B : Prop} {e : Int32} (he : e ≠ 0) (h : A) : ((e = e → ((¬ e = (0 : Int32) → A) ∧ (e = (0 : Int32) → B))) ∧ (¬ e = e → False)) :=
  ⟨fun _ => ⟨fun _ => h, fun q => absurd q he⟩, fun q => q rfl⟩
theorem thr {t : Int32} {P : Int32 → Prop} (h : P t) : q_X1_thrown t P := h
theorem end_eq {A : Prop} {r : Int32} (h : A) : ((r = r → A) ∧ (¬ r = r → False)) := ⟨fun _ => h, fun q => q rfl⟩
theorem th_pc (c : Nat → Nat) : th_S c < 2 ^ 36 := Nat.lt_of_lt_of_le (th_lt c) (by decide)
theorem ne_pc (c : Nat → Nat) (k : Nat) : ne_S c k < 2 ^ 36 := Nat.lt_of_lt_of_le (ne_lt c k) (by decide)
section CASES
variable {L : Nat} {xs : Nat → Int32} {rec9 : recT} {i : Int32} {land : Nat → Int64} {there : Int32} {near : Nat → Int32} {worn : Nat → Int32} {trial : Nat → Int32} {fits : Nat → Int32} {ways : Nat → Int64} {joined : Nat → Nat → Int32} {mcel : Nat → Int32} {mtint : Nat → Int32} {mcells : Nat → Int64} {mnear : Nat → Int32} {mthere : Int32} {mways : Nat → Int64} {mmore : Nat → Int64} {mthrown : Int32} {out : Nat → Int64} {c t : Nat → Nat}
theorem case3 (r : RelX land there near worn mcel mtint c t) (hr : RecOK rec9 i) : q_L_case3 L xs rec9 i land there near worn trial fits ways joined mcel mtint mcells mnear mthere mways mmore mthrown out := by
  obtain ⟨hb, ht, hl, hth, hn, hw, hc, hm⟩ := id r
  subst hth
  refine J6_spec (th_lt c) (looks_spec hc hb (fun cells' near' h1 h2 => ?_))
  rw [nI_l (Nat.lt_of_lt_of_le (th_lt c) (by decide))]
  exact bits_spec (th_pc c) (end_eq (hr _ _ _ _ _ _ _ _ _ _ _ _ _ _ _ _ _ c t r))
theorem case4 (hx : xin (i + (1 : Int32)) L = true) (r : RelX land there near worn mcel mtint c t) (hr : RecOK rec9 i) : q_L_case4 L xs rec9 i land there near worn trial fits ways joined mcel mtint mcells mnear mthere mways mmore mthrown out := by
  obtain ⟨hb, ht, hl, hth, hn, hw, hc, hm⟩ := id r
  unfold q_L_case4 q_L_area q_X0_area q_X1_area
  refine ⟨hx, ?_⟩
  generalize xs (i + (1 : Int32)).toNatClampNeg = p
  rcases allC p with hp | ⟨k, hk, rfl⟩
  · exact chkC_bad hp ⟨rfl, hx, looks_spec hc hb (fun cells' near' h1 h2 => isC_bad hp (goes_0 ⟨fun _ => end_ex (by decide) (hr _ _ _ _ _ _ _ _ _ _ _ _ _ _ _ _ _ c t r), fun q => absurd rfl q⟩))⟩
  · have xk := xin_nI hk (by decide)
    refine chkC_ok hk ⟨xk, ?_⟩
    rw [nI_clamp (by omega), hl k hk]
    refine J13_spec (ld_lt c k) ⟨hx, looks_spec hc hb (fun cells' near' h1 h2 => isC_ok hk (goes_111 ⟨fun q => absurd q (by decide), fun _ => ⟨xk, ?_⟩⟩))⟩
    rw [h1 k hk]
    exact bits_spec (ld_lt c k) (end_ok (hr _ _ _ _ _ _ _ _ _ _ _ _ _ _ _ _ _ c t r))
theorem case5 (hx : xin (i + (1 : Int32)) L = true) (r : RelX land there near worn mcel mtint c t) (hr : RecOK rec9 i) : q_L_case5 L xs rec9 i land there near worn trial fits ways joined mcel mtint mcells mnear mthere mways mmore mthrown out := by
  obtain ⟨hb, ht, hl, hth, hn, hw, hc, hm⟩ := id r
  unfold q_L_case5 q_L_pieces q_X0_pieces q_X1_pieces
  refine ⟨hx, ?_⟩
  generalize xs (i + (1 : Int32)).toNatClampNeg = p
  rcases allC p with hp | ⟨k, hk, rfl⟩
  · exact chkC_bad hp ⟨rfl, hx, looks_spec hc hb (fun cells' near' h1 h2 => isC_bad hp (goes_0 ⟨fun _ => end_ex (by decide) (hr _ _ _ _ _ _ _ _ _ _ _ _ _ _ _ _ _ c t r), fun q => absurd rfl q⟩))⟩
  · have xk := xin_nI hk (by decide)
    refine chkC_ok hk ⟨xk, ?_⟩
    rw [nI_clamp (by omega), hl k hk]
    refine X0_countPieces_spec (ld_lt c k) ⟨hx, looks_spec hc hb (fun cells' near' h1 h2 => isC_ok hk (goes_111 ⟨fun q => absurd q (by decide), fun _ => ?_⟩))⟩
    exact X1_piecesOf_spec hk (h1 k hk) (ld_lt c k) (end_ok (hr _ _ _ _ _ _ _ _ _ _ _ _ _ _ _ _ _ c t r))
theorem case6 (hx : xin (i + (1 : Int32)) L = true) (r : RelX land there near worn mcel mtint c t) (hr : RecOK rec9 i) : q_L_case6 L xs rec9 i land there near worn trial fits ways joined mcel mtint mcells mnear mthere mways mmore mthrown out := by
  obtain ⟨hb, ht, hl, hth, hn, hw, hc, hm⟩ := id r
  unfold q_L_case6 q_L_largestPiece q_X0_largestPiece q_X1_largestPiece
  refine ⟨hx, ?_⟩
  generalize xs (i + (1 : Int32)).toNatClampNeg = p
  rcases allC p with hp | ⟨k, hk, rfl⟩
  · exact chkC_bad hp ⟨rfl, hx, looks_spec hc hb (fun cells' near' h1 h2 => isC_bad hp (goes_0 ⟨fun q => absurd rfl q, fun _ => end_ex (by decide) (hr _ _ _ _ _ _ _ _ _ _ _ _ _ _ _ _ _ c t r)⟩))⟩
  · have xk := xin_nI hk (by decide)
    refine chkC_ok hk ⟨xk, ?_⟩
    unfold xl
    rw [nI_clamp (by omega), hl k hk]
    refine ⟨37, X0_largest_L 36 0 0 _ rfl (by omega) (ld_lt c k) (pc_36 (ld_lt c k)) ⟨hx, looks_spec hc hb (fun cells' near' h1 h2 => isC_ok hk (goes_111 ⟨fun _ => ⟨xk, ?_⟩, fun q => absurd q (by decide)⟩))⟩⟩
    rw [h1 k hk]
    refine ⟨37, X1_largest_L 36 0 _ (by omega) (ld_lt c k) (pc_36 (ld_lt c k)) ?_⟩
    exact thr (end_ok (hr _ _ _ _ _ _ _ _ _ _ _ _ _ _ _ _ _ c t r))
theorem case8 (hx : xin (i + (1 : Int32)) L = true) (r : RelX land there near worn mcel mtint c t) (hr : RecOK rec9 i) : q_L_case8 L xs rec9 i land there near worn trial fits ways joined mcel mtint mcells mnear mthere mways mmore mthrown out := by
  obtain ⟨hb, ht, hl, hth, hn, hw, hc, hm⟩ := id r
  unfold q_L_case8 q_L_neighbours q_X0_neighbours q_X1_neighbours
  refine ⟨hx, ?_⟩
  generalize xs (i + (1 : Int32)).toNatClampNeg = p
  rcases allC p with hp | ⟨k, hk, rfl⟩
  · exact chkC_bad hp ⟨rfl, hx, looks_spec hc hb (fun cells' near' h1 h2 => isC_bad hp (goes_0 ⟨fun _ => end_ex (by decide) (hr _ _ _ _ _ _ _ _ _ _ _ _ _ _ _ _ _ c t r), fun q => absurd rfl q⟩))⟩
  · have xk := xin_nI hk (by decide)
    refine chkC_ok hk ⟨xk, ?_⟩
    rw [nI_clamp (by omega), hn k hk]
    refine J6_spec (ne_lt c k) ⟨hx, looks_spec hc hb (fun cells' near' h1 h2 => isC_ok hk (goes_111 ⟨fun q => absurd q (by decide), fun _ => ⟨xk, ?_⟩⟩))⟩
    rw [h2 k hk, nI_l (Nat.lt_of_lt_of_le (ne_lt c k) (by decide))]
    exact bits_spec (ne_pc c k) (end_ok (hr _ _ _ _ _ _ _ _ _ _ _ _ _ _ _ _ _ c t r))
end CASES
