/-! the pure side: scattered, enclosed, tint, tintOf, border -/
theorem cp_le : ∀ n a, cp n a ≤ n
  | 0, _ => Nat.le_refl _
  | n + 1, a => by
    rw [cp]
    split
    · omega
    · have := cp_le n (mi a (pie a)); omega
def sc (c : Nat → Nat) (n : Nat) : Nat := ct (fun k => decide (1 < cp 36 (ld_S c k))) n
theorem X0_scattered_L {c : Nat → Nat} {land : Nat → Int64} (hc : ∀ j, j < 10 → land j = lN (ld_S c j)) {P0 : Int32 → Prop} (h : P0 (nI (sc c 10))) : ∀ (d k : Nat), k + d = 10 → q_X0_scattered_L4 land P0 (d + 1) (nI (sc c k)) (nI k) := by
  intro d
  induction d with
  | zero =>
    intro k hk
    have : k = 10 := by omega
    subst this
    rw [q_X0_scattered_L4]
    exact ⟨fun _ => h, fun q => absurd (by decide) q⟩
  | succ d ih =>
    intro k hk
    rw [q_X0_scattered_L4]
    refine ⟨fun q => absurd q (ge10 (by omega)), fun _ => ⟨xin_nI (by omega) (by decide), ?_⟩⟩
    rw [nI_clamp (n := k) (by omega), hc k (by omega)]
    refine X0_countPieces_spec (ld_lt c k) ?_
    have hle := cp_le 36 (ld_S c k)
    have := ih (k + 1) (by omega)
    rw [show (1 : Int32) = nI 1 from rfl, nI_leI (by omega) (by decide), nI_add, nI_add]
    unfold sc at this ⊢
    rw [ct] at this
    refine ⟨fun q => ?_, fun q => ?_⟩
    · rw [decide_eq_false (by omega)] at this; exact this
    · rw [decide_eq_true (by omega)] at this; exact this
theorem X1_scattered_L {c : Nat → Nat} {cells : Nat → Int64} (hc : ∀ j, j < 10 → cells j = lN (ld_S c j)) {P0 : Int32 → Prop} (h : P0 (nI (sc c 10))) : ∀ (d k : Nat), k + d = 10 → q_X1_scattered_L13 cells P0 (d + 1) (nI (sc c k)) (nI k) := by
  intro d
  induction d with
  | zero =>
    intro k hk
    have : k = 10 := by omega
    subst this
    rw [q_X1_scattered_L13]
    exact ⟨fun _ => h, fun q => absurd (by decide) q⟩
  | succ d ih =>
    intro k hk
    rw [q_X1_scattered_L13]
    refine ⟨fun q => absurd q (ge10 (by omega)), fun _ => ?_⟩
    refine X1_piecesOf_spec (by omega) (hc k (by omega)) (ld_lt c k) ?_
    have hle := cp_le 36 (ld_S c k)
    have := ih (k + 1) (by omega)
    unfold xl
    rw [show (1 : Int32) = nI 1 from rfl, nI_leI (by omega) (by decide), nI_add, nI_add, show (0 : Int32) = nI 0 from rfl, nI_add]
    unfold sc at this ⊢
    rw [ct] at this
    refine ⟨fun q => ?_, fun q => ?_⟩
    · rw [decide_eq_false (by omega)] at this; exact this
    · rw [decide_eq_true (by omega)] at this; exact this
def cE : Nat := 68208171135
theorem cE_eq : (68208171135 : Int64) = lN cE := by decide +kernel
theorem X1_reach_spec2 {set e : Nat} (hs : set < 2 ^ 36) {P : Int64 → Prop} (hp : P (lN (rch set (e &&& set)))) : q_X1_reach (lN e) (lN set) P := by
  have h1 : q_X1_reach (lN (e &&& set)) (lN set) P := X1_reach_spec (wi_and_r _ _) hs hp
  unfold q_X1_reach xl at h1 ⊢
  rw [pL_and] at h1 ⊢
  rw [show e &&& set &&& set = e &&& set from wi_anti (wi_and_l _ _) (fun i q => by rw [Nat.testBit_and, q, wi_and_r _ _ i q]; rfl)] at h1
  exact h1
theorem cM_lt : cM < 2 ^ 36 := by decide
def encl (A : Nat) : Nat := pc (mi (mi cM A) (rch (mi cM A) (cE &&& mi cM A)))
theorem X0_encl {k A : Nat} (hk : k < 10) {land : Nat → Int64} (h : land k = lN A) (hA : A < 2 ^ 36) {P : Int32 → Prop} (hp : P (nI (encl A))) : xin (nI k) 10 = true ∧ xl ((68719476735 : Int64) &&& ((land (nI k).toNatClampNeg) ^^^ (-1 : Int64))) (fun y1 => q_X0_reach ((68208171135 : Int64) &&& y1) y1 (fun (r2 : Int64) => q_J13_bitCount_95d88 (y1 &&& (r2 ^^^ (-1 : Int64))) (fun (r3 : Int32) => P r3))) := by
  refine ⟨xin_nI hk (by decide), ?_⟩
  unfold xl
  rw [nI_clamp (by omega), h, cM_eq, pL_mi, cE_eq]
  unfold encl at hp
  have hm : mi cM A < 2 ^ 36 := mi_lt cM_lt
  generalize mi cM A = M at hm hp ⊢
  generalize cE = e at hp ⊢
  show q_X0_reach (lN e &&& lN M) (lN M) _
  rw [pL_and]
  refine X0_reach_spec (wi_and_r _ _) hm ?_
  rw [pL_mi]
  exact J13_spec (mi_lt hm) hp
theorem X1_tail {M R : Nat} (hm : M < 2 ^ 36) {P : Int32 → Prop} (hp : P (nI (pc (mi M R)))) : q_X1_bits (lN M &&& (lN R ^^^ (-1 : Int64))) (fun (r9 : Int32) => P r9) := by
  rw [pL_mi]
  exact bits_spec (mi_lt hm) hp
theorem X1_encl2 {M e : Nat} (hm : M < 2 ^ 36) {P : Int32 → Prop} (hp : P (nI (pc (mi M (rch M (e &&& M)))))) : q_X1_reach (lN e) (lN M) (fun (r8 : Int64) => q_X1_bits (lN M &&& (r8 ^^^ (-1 : Int64))) (fun (r9 : Int32) => P r9)) :=
  X1_reach_spec2 (set := M) (e := e) (P := fun (r8 : Int64) => q_X1_bits (lN M &&& (r8 ^^^ (-1 : Int64))) (fun (r9 : Int32) => P r9)) hm (X1_tail hm hp)
theorem xl_i {α : Type} {e : α} {f : α → Prop} (h : f e) : xl e f := h
theorem X1_encl3 {k A m0 e0 : Nat} (hm0 : mi m0 A < 2 ^ 36) (hk : (nI k).toNatClampNeg = k) {cells : Nat → Int64} (h : cells k = lN A) {P : Int32 → Prop} (hp : P (nI (pc (mi (mi m0 A) (rch (mi m0 A) (e0 &&& mi m0 A)))))) : xl (lN m0 &&& ((cells (nI k).toNatClampNeg) ^^^ (-1 : Int64))) (fun y7 => q_X1_reach (lN e0) y7 (fun (r8 : Int64) => q_X1_bits (y7 &&& (r8 ^^^ (-1 : Int64))) (fun (r9 : Int32) => P r9))) := by
  have e1 : lN m0 &&& ((cells (nI k).toNatClampNeg) ^^^ (-1 : Int64)) = lN (mi m0 A) := by rw [hk, h, pL_mi]
  rw [e1]
  exact xl_i (X1_encl2 hm0 hp)
theorem X1_enclG {k A m0 e0 : Nat} (hm0 : m0 < 2 ^ 36) {m e : Int64} (em : m = lN m0) (ee : e = lN e0) (hk : k < 10) {cells : Nat → Int64} (h : cells k = lN A) {P : Int32 → Prop} (hp : P (nI (pc (mi (mi m0 A) (rch (mi m0 A) (e0 &&& mi m0 A)))))) : xl (m &&& ((cells (nI k).toNatClampNeg) ^^^ (-1 : Int64))) (fun y7 => q_X1_reach e y7 (fun (r8 : Int64) => q_X1_bits (y7 &&& (r8 ^^^ (-1 : Int64))) (fun (r9 : Int32) => P r9))) := by
  rw [em, ee]
  exact X1_encl3 (mi_lt hm0) (nI_clamp (Nat.lt_of_lt_of_le hk (by decide))) h hp
theorem allT (p : Int32) : (p < 0 ∨ (10 : Int32) < p) ∨ ∃ v, v ≤ 10 ∧ p = nI v := by
  rcases pk_ix p (n := 11) (by decide) with h | h | ⟨v, h1, h2⟩
  · exact Or.inl (Or.inl h)
  · refine Or.inl (Or.inr ?_)
    rw [Int32.lt_iff_toInt_lt]
    rw [Int32.le_iff_toInt_le] at h
    have e1 : (nI 11).toInt = 11 := by decide
    have e2 : (10 : Int32).toInt = 10 := by decide
    omega
  · exact Or.inr ⟨v, by omega, h2⟩
theorem in_bad {p a b : Int32} (h : p < a ∨ b < p) {P : Int32 → Prop} (hp : P 0) : q_X1_in p a b P := by
  refine ⟨fun _ => ⟨xb0, hp⟩, fun h1 => ⟨fun _ => ⟨xb0, hp⟩, fun h2 => ?_⟩⟩
  rcases h with h | h
  · exact absurd h h1
  · exact absurd h h2
theorem in_ok {p a b : Int32} (h1 : ¬ p < a) (h2 : ¬ b < p) {P : Int32 → Prop} (hp : P 1) : q_X1_in p a b P := ⟨fun q => absurd q h1, fun _ => ⟨fun q => absurd q h2, fun _ => ⟨xb1, hp⟩⟩⟩
theorem chkT_bad {p : Int32} (h : p < 0 ∨ (10 : Int32) < p) {Q : Prop} {T : String → Prop} (ht : T "java/lang/IllegalArgumentException") : q_X0_checkTint p Q T := by
  refine ⟨fun _ => ht, fun h1 => ⟨fun h2 => ?_, fun _ => ht⟩⟩
  rw [Int32.lt_iff_toInt_lt] at h1
  rw [Int32.le_iff_toInt_le] at h2
  have e1 : (1 : Int32).toInt = 1 := by decide
  have e2 : (10 : Int32).toInt = 10 := by decide
  have e3 : (0 : Int32).toInt = 0 := by decide
  rcases h with h | h <;> rw [Int32.lt_iff_toInt_lt] at h <;> omega
theorem chkT_0 {Q : Prop} {T : String → Prop} (ht : T "java/lang/IllegalArgumentException") : q_X0_checkTint 0 Q T := ⟨fun _ => ht, fun h1 => absurd (by decide) h1⟩
theorem chkT_ok {v : Nat} (h1 : 1 ≤ v) (h2 : v ≤ 10) {Q : Prop} {T : String → Prop} (h : Q) : q_X0_checkTint (nI v) Q T := ⟨fun q => absurd q (nI_nlt (b := 1) h1 (by omega)), fun _ => ⟨fun _ => h, fun q => absurd (nI_le (b := 10) h2 (by decide)) q⟩⟩
theorem rel_tint {land : Nat → Int64} {there : Int32} {near worn mcel mtint : Nat → Int32} {c t : Nat → Nat} (r : RelX land there near worn mcel mtint c t) {k v : Nat} (hv : v ≤ 10) : RelX land there near (upd worn k (nI v)) mcel (upd mtint k (nI v)) c (fun j => if j = k then v else t j) := by
  obtain ⟨hb, ht, hl, hth, hn, hw, hc, hm⟩ := r
  refine ⟨hb, fun j hj => ?_, hl, hth, hn, fun j hj => ?_, hc, fun j hj => ?_⟩
  · show (if j = k then v else t j) ≤ 10
    by_cases e : j = k
    · rw [if_pos e]; exact hv
    · rw [if_neg e]; exact ht j hj
  · show upd worn k (nI v) j = nI (if j = k then v else t j)
    by_cases e : j = k
    · subst e; rw [if_pos rfl, upI_s]
    · rw [if_neg e, upI_n e]; exact hw j hj
  · show upd mtint k (nI v) j = nI (if j = k then v else t j)
    by_cases e : j = k
    · subst e; rw [if_pos rfl, upI_s]
    · rw [if_neg e, upI_n e]; exact hm j hj
section CASES
variable {L : Nat} {xs : Nat → Int32} {rec9 : recT} {i : Int32} {land : Nat → Int64} {there : Int32} {near : Nat → Int32} {worn : Nat → Int32} {trial : Nat → Int32} {fits : Nat → Int32} {ways : Nat → Int64} {joined : Nat → Nat → Int32} {mcel : Nat → Int32} {mtint : Nat → Int32} {mcells : Nat → Int64} {mnear : Nat → Int32} {mthere : Int32} {mways : Nat → Int64} {mmore : Nat → Int64} {mthrown : Int32} {out : Nat → Int64} {c t : Nat → Nat}
theorem case7 (r : RelX land there near worn mcel mtint c t) (hr : RecOK rec9 i) : q_L_case7 L xs rec9 i land there near worn trial fits ways joined mcel mtint mcells mnear mthere mways mmore mthrown out := by
  obtain ⟨hb, ht, hl, hth, hn, hw, hc, hm⟩ := id r
  unfold q_L_case7 q_X0_scattered
  refine ⟨11, X0_scattered_L hl (looks_spec hc hb (fun cells' near' h1 h2 => ⟨11, X1_scattered_L h1 ?_ 10 0 rfl⟩)) 10 0 rfl⟩
  exact end_eq (hr _ _ _ _ _ _ _ _ _ _ _ _ _ _ _ _ _ c t r)
theorem case10 (hx : xin (i + (1 : Int32)) L = true) (r : RelX land there near worn mcel mtint c t) (hr : RecOK rec9 i) : q_L_case10 L xs rec9 i land there near worn trial fits ways joined mcel mtint mcells mnear mthere mways mmore mthrown out := by
  obtain ⟨hb, ht, hl, hth, hn, hw, hc, hm⟩ := id r
  unfold q_L_case10 q_L_enclosed q_X0_enclosed q_X1_enclosed
  refine ⟨hx, ?_⟩
  generalize xs (i + (1 : Int32)).toNatClampNeg = p
  rcases allC p with hp | ⟨k, hk, rfl⟩
  · exact chkC_bad hp ⟨rfl, hx, looks_spec hc hb (fun cells' near' h1 h2 => isC_bad hp (goes_0 ⟨fun q => absurd rfl q, fun _ => end_ex (by decide) (hr _ _ _ _ _ _ _ _ _ _ _ _ _ _ _ _ _ c t r)⟩))⟩
  · have xk := xin_nI hk (by decide)
    refine chkC_ok hk ?_
    exact X0_encl hk (hl k hk) (ld_lt c k) ⟨hx, looks_spec hc hb (fun cells' near' h1 h2 => isC_ok hk (goes_111 ⟨fun _ => ⟨xk, X1_enclG cM_lt cM_eq cE_eq hk (h1 k hk) (thr (end_ok (hr _ _ _ _ _ _ _ _ _ _ _ _ _ _ _ _ _ c t r)))⟩, fun q => absurd q (by decide)⟩))⟩
theorem case13 (hx : xin (i + (1 : Int32)) L = true) (r : RelX land there near worn mcel mtint c t) (hr : RecOK rec9 i) : q_L_case13 L xs rec9 i land there near worn trial fits ways joined mcel mtint mcells mnear mthere mways mmore mthrown out := by
  obtain ⟨hb, ht, hl, hth, hn, hw, hc, hm⟩ := id r
  unfold q_L_case13 q_L_tintOf q_X0_tintOf q_X1_tintOf
  refine ⟨hx, ?_⟩
  generalize xs (i + (1 : Int32)).toNatClampNeg = p
  rcases allC p with hp | ⟨k, hk, rfl⟩
  · exact chkC_bad hp ⟨rfl, hx, isC_bad hp (goes_0 ⟨fun _ => end_ex (by decide) (hr _ _ _ _ _ _ _ _ _ _ _ _ _ _ _ _ _ c t r), fun q => absurd rfl q⟩)⟩
  · have xk := xin_nI hk (by decide)
    refine chkC_ok hk ⟨xk, hx, isC_ok hk (goes_111 ⟨fun q => absurd q (by decide), fun _ => ⟨xk, ?_⟩⟩)⟩
    rw [nI_clamp (by omega), hw k hk, hm k hk]
    exact thr (end_ok (hr _ _ _ _ _ _ _ _ _ _ _ _ _ _ _ _ _ c t r))
theorem case12 (hx : xin (i + (1 : Int32)) L = true) (hx2 : xin (i + (2 : Int32)) L = true) (r : RelX land there near worn mcel mtint c t) (hr : RecOK rec9 i) : q_L_case12 L xs rec9 i land there near worn trial fits ways joined mcel mtint mcells mnear mthere mways mmore mthrown out := by
  obtain ⟨hb, ht, hl, hth, hn, hw, hc, hm⟩ := id r
  unfold q_L_case12 q_L_tint q_X0_tint q_X1_tint
  refine ⟨hx, hx2, ?_⟩
  generalize xs (i + (1 : Int32)).toNatClampNeg = p
  generalize xs (i + (2 : Int32)).toNatClampNeg = q
  rcases allC p with hp | ⟨k, hk, rfl⟩
  · refine chkC_bad hp (Or.inl ⟨rfl, hx, hx2, isC_bad hp ?_⟩)
    rcases allT q with hq | ⟨v, hv, rfl⟩
    · exact in_bad hq (goes_0 ⟨fun q => absurd rfl q, fun _ => end_ex (by decide) (hr _ _ _ _ _ _ _ _ _ _ _ _ _ _ _ _ _ c t r)⟩)
    · exact in_ok (nI_pos (by omega)) (nI_nlt (a := 10) hv (by decide)) (goes_0 ⟨fun q => absurd rfl q, fun _ => end_ex (by decide) (hr _ _ _ _ _ _ _ _ _ _ _ _ _ _ _ _ _ c t r)⟩)
  · have xk := xin_nI hk (by decide)
    refine chkC_ok hk ?_
    rcases allT q with hq | ⟨v, hv, rfl⟩
    · have hq0 : q ≠ 0 := by
        rintro rfl
        rcases hq with h | h
        · exact absurd h (by decide)
        · exact absurd h (by decide)
      unfold xj0
      exact ⟨fun e => absurd e hq0, fun _ => chkT_bad hq (Or.inr ⟨rfl, hx, hx2, isC_ok hk (in_bad hq (goes_10 ⟨fun q => absurd rfl q, fun _ => end_ex (by decide) (hr _ _ _ _ _ _ _ _ _ _ _ _ _ _ _ _ _ c t r)⟩))⟩)⟩
    · refine xj0_i (fun J hJ => ⟨fun _ => hJ, fun e => chkT_ok (Nat.one_le_iff_ne_zero.mpr (fun z => e (by rw [z]; rfl))) hv hJ⟩) ⟨xk, ?_⟩
      unfold xl
      rw [nI_clamp (by omega)]
      refine ⟨xk, hx, hx2, isC_ok hk (in_ok (nI_pos (by omega)) (nI_nlt (a := 10) hv (by decide)) (goes_111 ⟨fun _ => ⟨xk, xk, ?_⟩, fun q => absurd q (by decide)⟩))⟩
      rw [hw k hk, hm k hk]
      exact thr (end_ok (hr _ _ _ _ _ _ _ _ _ _ _ _ _ _ _ _ _ c _ (rel_tint r hv)))
theorem case24 (r : RelX land there near worn mcel mtint c t) (hr : RecOK rec9 i) : q_L_case24 L xs rec9 i land there near worn trial fits ways joined mcel mtint mcells mnear mthere mways mmore mthrown out := (hr _ _ _ _ _ _ _ _ _ _ _ _ _ _ _ _ _ c t r)
end CASES
