/-! what the class answers to the law's calls, over a map c and tints t -/
def RX (land : Nat → Int64) (there : Int32) (near worn : Nat → Int32) (c t : Nat → Nat) : Prop := (∀ i, i < 36 → c i ≤ 10) ∧ (∀ k, k < 10 → t k ≤ 10) ∧ (∀ k, k < 10 → land k = lN (ld_S c k)) ∧ there = nI (th_S c) ∧ (∀ k, k < 10 → near k = nI (ne_S c k)) ∧ (∀ k, k < 10 → worn k = nI (t k))
section ANS
variable {land : Nat → Int64} {there : Int32} {near worn trial fits : Nat → Int32} {ways : Nat → Int64} {joined : Nat → Nat → Int32} {c t : Nat → Nat}
theorem z_countryAt (r : RX land there near worn c t) {k j : Nat} (hk : k < 6) (hj : j < 6) {P : Int32 → Prop} (h : P (cv (c (6 * k + j)))) : q0_L_countryAt (nI k) (nI j) land P := by
  unfold q0_L_countryAt
  refine X0_countryAt_a r.2.2.1 r.1 (fun q => q.elim (fun q => not_badX hk q) (fun q => not_badX hj q)) (fun k2 j2 h1 h2 e1 e2 => ?_)
  have := (nI_eq (by omega) (by omega)).mp e1
  have := (nI_eq (by omega) (by omega)).mp e2
  subst_vars
  exact h
theorem g_countryAt_bad (r : RX land there near worn c t) {p q : Int32} (hb : badX p ∨ badX q) {P : Int32 → Prop} (h : P (-1000001)) : q_L_countryAt p q land P := by
  unfold q_L_countryAt
  refine X0_countryAt_a r.2.2.1 r.1 (fun _ => ⟨rfl, h⟩) (fun k2 j2 h1 h2 e1 e2 => ?_)
  subst e1 e2
  exact (hb.elim (fun q => not_badX h1 q) (fun q => not_badX h2 q)).elim
theorem z_area (r : RX land there near worn c t) {k : Nat} (hk : k < 10) {P : Int32 → Prop} (h : P (nI (pc (ld_S c k)))) : q0_L_area (nI k) land P := by
  unfold q0_L_area q_X0_area
  refine chkC_ok hk ⟨xin_nI hk (by decide), ?_⟩
  rw [nI_clamp (by omega), r.2.2.1 k hk]
  exact J13_spec (ld_lt c k) h
theorem g_area_bad {p : Int32} (hb : badC p) {P : Int32 → Prop} (h : P (-1000001)) : q_L_area p land P := by
  unfold q_L_area q_X0_area
  exact chkC_bad hb ⟨rfl, h⟩
theorem z_pieces (r : RX land there near worn c t) {k : Nat} (hk : k < 10) {P : Int32 → Prop} (h : P (nI (cp 36 (ld_S c k)))) : q0_L_pieces (nI k) land P := by
  unfold q0_L_pieces q_X0_pieces
  refine chkC_ok hk ⟨xin_nI hk (by decide), ?_⟩
  rw [nI_clamp (by omega), r.2.2.1 k hk]
  exact X0_countPieces_spec (ld_lt c k) h
theorem g_pieces_bad {p : Int32} (hb : badC p) {P : Int32 → Prop} (h : P (-1000001)) : q_L_pieces p land P := by
  unfold q_L_pieces q_X0_pieces
  exact chkC_bad hb ⟨rfl, h⟩
theorem z_largest (r : RX land there near worn c t) {k : Nat} (hk : k < 10) {P : Int32 → Prop} (h : P (nI (lp 36 0 (ld_S c k)))) : q0_L_largestPiece (nI k) land P := by
  unfold q0_L_largestPiece q_X0_largestPiece
  refine chkC_ok hk ⟨xin_nI hk (by decide), xl_i ?_⟩
  rw [nI_clamp (by omega), r.2.2.1 k hk]
  exact ⟨37, X0_largest_L 36 0 0 _ rfl (by omega) (ld_lt c k) (pc_36 (ld_lt c k)) h⟩
theorem z_neighbours (r : RX land there near worn c t) {k : Nat} (hk : k < 10) {P : Int32 → Prop} (h : P (nI (pc (ne_S c k)))) : q0_L_neighbours (nI k) near P := by
  unfold q0_L_neighbours q_X0_neighbours
  refine chkC_ok hk ⟨xin_nI hk (by decide), ?_⟩
  rw [nI_clamp (by omega), r.2.2.2.2.1 k hk]
  exact J6_spec (ne_lt c k) h
theorem z_border (r : RX land there near worn c t) {k j : Nat} (hk : k < 10) (hj : j < 10) {P : Int32 → Prop} (h : P (nI (bval c k j))) : q0_L_border (nI k) (nI j) land P := by
  unfold q0_L_border
  refine X0_border_a r.2.2.1 (fun q => q.elim (fun q => not_badC hk q) (fun q => not_badC hj q)) (fun k2 j2 h1 h2 e1 e2 => ?_)
  have := (nI_eq (by omega) (by omega)).mp e1
  have := (nI_eq (by omega) (by omega)).mp e2
  subst_vars
  exact h
theorem g_border_bad (r : RX land there near worn c t) {p q : Int32} (hb : badC p ∨ badC q) {P : Int32 → Prop} (h : P (-1000001)) : q_L_border p q land P := by
  unfold q_L_border
  refine X0_border_a r.2.2.1 (fun _ => ⟨rfl, h⟩) (fun k2 j2 h1 h2 e1 e2 => ?_)
  subst e1 e2
  exact (hb.elim (fun q => not_badC h1 q) (fun q => not_badC h2 q)).elim
theorem z_enclosed (r : RX land there near worn c t) {k : Nat} (hk : k < 10) {P : Int32 → Prop} (h : P (nI (encl (ld_S c k)))) : q0_L_enclosed (nI k) land P := by
  unfold q0_L_enclosed q_X0_enclosed
  exact chkC_ok hk (X0_encl hk (r.2.2.1 k hk) (ld_lt c k) h)
theorem z_countries (r : RX land there near worn c t) {P : Int32 → Prop} (h : P (nI (pc (th_S c)))) : q_X0_countries there P := by
  unfold q_X0_countries
  rw [r.2.2.2.1]
  exact J6_spec (th_lt c) h
theorem z_tintOf (r : RX land there near worn c t) {k : Nat} (hk : k < 10) {P : Int32 → Prop} (h : P (nI (t k))) : q0_L_tintOf (nI k) worn P := by
  unfold q0_L_tintOf q_X0_tintOf
  refine chkC_ok hk ⟨xin_nI hk (by decide), ?_⟩
  rw [nI_clamp (by omega), r.2.2.2.2.2 k hk]
  exact h
theorem z_leastFree (r : RX land there near worn c t) {k : Nat} (hk : k < 10) {P : Int32 → Prop} (h : ∀ f, LF (ne_S c k) t f → P (nI f)) : q0_L_leastFree (nI k) near worn P := by
  unfold q0_L_leastFree q_X0_leastFree
  refine chkC_ok hk ⟨xin_nI hk (by decide), ?_⟩
  rw [nI_clamp (by omega), r.2.2.2.2.1 k hk]
  have hf := lfv_spec (t := t) (ne_9 c hk)
  exact X0_lf r.2.2.2.2.2 r.2.1 hf (h _ hf)
theorem g_leastFree_bad {p : Int32} (hb : badC p) {P : Int32 → Prop} (h : P (-1000001)) : q_L_leastFree p near worn P := by
  unfold q_L_leastFree q_X0_leastFree
  exact chkC_bad hb ⟨rfl, h⟩
theorem RX_t (r : RX land there near worn c t) {t' : Nat → Nat} {worn' : Nat → Int32} (h0 : ∀ k, k < 10 → t' k ≤ 10) (h1 : ∀ k, k < 10 → worn' k = nI (t' k)) : RX land there near worn' c t' := ⟨r.1, h0, r.2.2.1, r.2.2.2.1, r.2.2.2.2.1, h1⟩
theorem z_tint (r : RX land there near worn c t) {k v : Nat} (hk : k < 10) (hv : v ≤ 10) {P : Int32 → (Nat → Int32) → Prop} (h : ∀ worn', RX land there near worn' c (fun j => if j = k then v else t j) → P (nI (t k)) worn') : q_L_tint (nI k) (nI v) worn P := by
  unfold q_L_tint q_X0_tint
  refine chkC_ok hk (xj0_i (fun J hJ => ⟨fun _ => hJ, fun e => chkT_ok (Nat.one_le_iff_ne_zero.mpr (fun z => e (by rw [z]; rfl))) hv hJ⟩) ⟨xin_nI hk (by decide), xl_i ⟨xin_nI hk (by decide), ?_⟩⟩)
  rw [nI_clamp (by omega), r.2.2.2.2.2 k hk]
  refine h _ (RX_t r (fun j hj => ?_) (fun j hj => ?_))
  · show (if j = k then v else t j) ≤ 10
    by_cases e : j = k
    · rw [if_pos e]; exact hv
    · rw [if_neg e]; exact r.2.1 j hj
  · show upd worn k (nI v) j = nI (if j = k then v else t j)
    by_cases e : j = k
    · subst e
      rw [upI_s, if_pos rfl]
    · rw [upI_n e, if_neg e]; exact r.2.2.2.2.2 j hj
theorem g_tint_bad1 {p q : Int32} (hb : badC p) {P : Int32 → (Nat → Int32) → Prop} (h : P (-1000001) worn) : q_L_tint p q worn P := by
  unfold q_L_tint q_X0_tint
  exact chkC_bad hb (Or.inl ⟨rfl, h⟩)
theorem g_tint_bad2 {k : Nat} (hk : k < 10) {q : Int32} (hq : q < 0 ∨ (10 : Int32) < q) {P : Int32 → (Nat → Int32) → Prop} (h : P (-1000002) worn) : q_L_tint (nI k) q worn P := by
  unfold q_L_tint q_X0_tint
  have hq0 : q ≠ 0 := by
    rintro rfl
    rcases hq with h | h
    · exact absurd h (by decide)
    · exact absurd h (by decide)
  unfold xj0
  exact chkC_ok hk ⟨fun e => absurd e hq0, fun _ => chkT_bad hq (Or.inr ⟨rfl, h⟩)⟩
theorem z_conflicts (r : RX land there near worn c t) {P : Int32 → Prop} (h : P (nI (cfl (ne_S c) t))) : q_X0_conflicts near worn P := X0_conf_spec (gr_ne c) r.2.2.2.2.1 r.2.2.2.2.2 r.2.1 h
theorem z_isTinted (r : RX land there near worn c t) {P : Int32 → Prop} (h : P (bI (isTb c t 10))) : q_X0_isTinted there near worn P := by
  rw [r.2.2.2.1]
  exact X0_isT_spec r.2.2.2.2.1 r.2.2.2.2.2 r.2.1 h
theorem z_chain (r : RX land there near worn c t) {k v : Nat} (hk : k < 10) (v1 : 1 ≤ v) (v2 : v ≤ 10) (h1 : ld_S c k ≠ 0) (h2 : t k ≠ 0) {P : Int32 → Prop} (h : P (nI (pc (chn (ne_S c) (th_S c) t k v)))) : q_L_chain (nI k) (nI v) there near worn P := by
  obtain ⟨hb, ht, hl, hth, hn, hw⟩ := r
  subst hth
  unfold q_L_chain q_X0_chain
  refine chkC_ok hk (chkT_ok v1 v2 (chkTd_spec hw ht hk (fun hno => absurd ⟨(th_bit hk).trans (decide_eq_true h1), h2⟩ hno) (fun _ _ => X0_chainOf_spec (th_lt c) hn hw ht hk v2 (J6_spec (chn_lt (gr_ne c).1 hk) h))))
theorem g_chain_1 {p q : Int32} (hp : badC p) {P : Int32 → Prop} (h : P (-1000001)) : q_L_chain p q there near worn P := by
  unfold q_L_chain q_X0_chain
  exact chkC_bad hp (Or.inl ⟨rfl, h⟩)
theorem g_chain_2 {k : Nat} (hk : k < 10) {q : Int32} (hq : badT q) {P : Int32 → Prop} (h : P (-1000002)) : q_L_chain (nI k) q there near worn P := by
  unfold q_L_chain q_X0_chain
  exact chkC_ok hk (chkT1_bad hq (Or.inr (Or.inl ⟨rfl, h⟩)))
theorem g_chain_3 (r : RX land there near worn c t) {k v : Nat} (hk : k < 10) (v1 : 1 ≤ v) (v2 : v ≤ 10) (hno : ¬ (ld_S c k ≠ 0 ∧ t k ≠ 0)) {P : Int32 → Prop} (h : P (-1000003)) : q_L_chain (nI k) (nI v) there near worn P := by
  obtain ⟨hb, ht, hl, hth, hn, hw⟩ := r
  subst hth
  unfold q_L_chain q_X0_chain
  refine chkC_ok hk (chkT_ok v1 v2 (chkTd_spec hw ht hk (fun _ => Or.inr (Or.inr ⟨rfl, h⟩)) (fun q1 q2 => absurd ⟨of_decide_eq_true ((th_bit hk).symm.trans q1), q2⟩ hno)))
theorem z_exchange (r : RX land there near worn c t) {k v : Nat} (hk : k < 10) (v1 : 1 ≤ v) (v2 : v ≤ 10) (h1 : ld_S c k ≠ 0) (h2 : t k ≠ 0) (hkv : t k ≠ v) {P : Int32 → (Nat → Int32) → Prop} (h : ∀ worn', RX land there near worn' c (exc t (chn (ne_S c) (th_S c) t k v) (t k) v) → P (nI (pc (chn (ne_S c) (th_S c) t k v))) worn') : q_L_exchange (nI k) (nI v) there near worn P := by
  obtain ⟨hb, ht, hl, hth, hn, hw⟩ := id r
  subst hth
  have htk := ht k hk
  unfold q_L_exchange q_X0_exchange
  refine chkC_ok hk (chkT_ok v1 v2 (chkTd_spec hw ht hk (fun hno => absurd ⟨(th_bit hk).trans (decide_eq_true h1), h2⟩ hno) (fun _ _ => ⟨xin_nI hk (by decide), xl_i ?_⟩)))
  rw [nI_clamp (n := k) (by omega), hw k hk]
  refine ⟨fun z => ?_, fun z => absurd ((nI_eq (by omega) (by omega)).mp z) hkv⟩
  refine X0_chainOf_spec (th_lt c) hn hw ht hk v2 ⟨11, X0_ex_L ht htk v2 (fun worn' hw' => ?_) 10 0 worn rfl (fun j hj => by rw [hw j hj, if_neg (Nat.not_lt_zero j)])⟩
  exact J6_spec (chn_lt (gr_ne c).1 hk) (h worn' (RX_t r (exc_le ht htk v2) hw'))
theorem z_exchange_same (r : RX land there near worn c t) {k v : Nat} (hk : k < 10) (v1 : 1 ≤ v) (v2 : v ≤ 10) (h1 : ld_S c k ≠ 0) (hkv : t k = v) {P : Int32 → (Nat → Int32) → Prop} (h : P 0 worn) : q_L_exchange (nI k) (nI v) there near worn P := by
  obtain ⟨hb, ht, hl, hth, hn, hw⟩ := id r
  subst hth
  unfold q_L_exchange q_X0_exchange
  refine chkC_ok hk (chkT_ok v1 v2 (chkTd_spec hw ht hk (fun hno => absurd ⟨(th_bit hk).trans (decide_eq_true h1), by omega⟩ hno) (fun _ _ => ⟨xin_nI hk (by decide), xl_i ?_⟩)))
  rw [nI_clamp (n := k) (by omega), hw k hk, hkv]
  exact ⟨fun z => absurd rfl z, fun _ => h⟩
theorem g_exchange_3 (r : RX land there near worn c t) {k v : Nat} (hk : k < 10) (v1 : 1 ≤ v) (v2 : v ≤ 10) (hno : ¬ (ld_S c k ≠ 0 ∧ t k ≠ 0)) {P : Int32 → (Nat → Int32) → Prop} (h : P (-1000003) worn) : q_L_exchange (nI k) (nI v) there near worn P := by
  obtain ⟨hb, ht, hl, hth, hn, hw⟩ := r
  subst hth
  unfold q_L_exchange q_X0_exchange
  refine chkC_ok hk (chkT_ok v1 v2 (chkTd_spec hw ht hk (fun _ => Or.inr (Or.inr ⟨rfl, h⟩)) (fun q1 q2 => absurd ⟨of_decide_eq_true ((th_bit hk).symm.trans q1), q2⟩ hno)))
theorem z_alln (r : RX land there near worn c t) {P : Int32 → (Nat → Int32) → Prop} (h : ∀ F, P (nI (mq (ne_S c) (th_S c) 1024)) F) : q_X0_allNeighbours there near fits P := by
  obtain ⟨hb, ht, hl, hth, hn, hw⟩ := r
  subst hth
  unfold q_X0_allNeighbours
  exact markSetsOfNeighbours_spec (gr_ne c) hn (fun F hF => ⟨1025, X0_alln_L hF (h F) 1024 0 rfl⟩)
theorem z_tintings (r : RX land there near worn c t) {v : Nat} (hv : v ≤ 10) {P : Int64 → (Nat → Int32) → (Nat → Int64) → Prop} (h : ∀ F w, P (lN (rr (ne_S c) v (th_S c))) F w) : q0_L_tintings (nI v) there near fits ways P := by
  obtain ⟨hb, ht, hl, hth, hn, hw⟩ := r
  subst hth
  exact X0_tintings_ok (gr_ne c) hn (th_lt c) hv h
theorem g_tintings_bad {p : Int32} (hp : p < 0 ∨ (10 : Int32) < p) {P : Int64 → (Nat → Int32) → (Nat → Int64) → Prop} (h : P (-1000002) fits ways) : q_L_tintings p there near fits ways P := by
  unfold q_L_tintings q_X0_tintings
  exact chkN_bad hp ⟨rfl, h⟩
theorem z_pairs (r : RX land there near worn c t) {v : Nat} (hv : v ≤ 10) {P : Int64 → (Nat → Nat → Int32) → Prop} (h : ∀ J, P (lN (rr (ne_S c) v (th_S c))) J) : q0_L_tintingsByPairs (nI v) near there joined P := by
  obtain ⟨hb, ht, hl, hth, hn, hw⟩ := r
  subst hth
  have g := gr_ne c
  have h10 := pc_10 (th_lt c)
  unfold q0_L_tintingsByPairs q_X0_tintingsByPairs
  refine chkN_ok hv (cbp hv 12 0 rfl (by decide) (th_S c) _ (ne_S c) (th_lt c) ⟨g.1, fun i j hi hj _ _ => g.2.1 i j hi hj, fun i hi _ => g.2.2 i hi⟩ (fun i hi => ?_) (by omega) _ (fun J' _ => h J'))
  rw [upd2_s]
  unfold va_cpy
  rw [if_pos ⟨Nat.zero_le _, by omega⟩, Nat.zero_add, Nat.sub_zero]
  exact hn i hi
theorem g_pairs_bad {p : Int32} (hp : p < 0 ∨ (10 : Int32) < p) {P : Int64 → (Nat → Nat → Int32) → Prop} (h : P (-1000002) joined) : q_L_tintingsByPairs p near there joined P := by
  unfold q_L_tintingsByPairs q_X0_tintingsByPairs
  exact chkN_bad hp ⟨rfl, h⟩
/-- f is the fewest -/
def Few (c : Nat → Nat) (f : Nat) : Prop := f ≤ 10 ∧ rr (ne_S c) f (th_S c) ≠ 0 ∧ ∀ k, k < f → rr (ne_S c) k (th_S c) = 0
theorem few_c (c : Nat → Nat) : ∃ f, Few c f := few_ex (gr_ne c) (th_lt c)
theorem few_one {c : Nat → Nat} {f g : Nat} (hf : Few c f) (hg : Few c g) : f = g := by
  rcases Nat.lt_trichotomy f g with h | h | h
  · exact absurd (hg.2.2 f h) hf.2.1
  · exact h
  · exact absurd (hf.2.2 g h) hg.2.1
theorem z_fewest (r : RX land there near worn c t) {f : Nat} (hf : Few c f) {P : Int32 → (Nat → Int32) → Prop} (h : ∀ tr, P (nI f) tr) : q_X0_fewestTints there near trial P := by
  obtain ⟨hb, ht, hl, hth, hn, hw⟩ := r
  subst hth
  unfold q_X0_fewestTints
  exact tryFewest_spec (gr_ne c) hn (th_lt c) (fun k i hk hi a => ne_th hi a) hf.1 hf.2.1 hf.2.2 (fun b trial' _ _ => h trial')
theorem z_twf (r : RX land there near worn c t) {f : Nat} (hf : Few c f) {P : Int32 → (Nat → Int32) → (Nat → Int32) → Prop} (h : ∀ b tr worn', Best (ne_S c) f (th_S c) 0 (fun _ => 0) b → RX land there near worn' c (fun j => if (th_S c).testBit j = true then b j else t j) → P (nI f) worn' tr) : q_X0_tintWithFewest there near worn trial P := by
  obtain ⟨hb, ht, hl, hth, hn, hw⟩ := id r
  subst hth
  obtain ⟨f1, f2, f3⟩ := hf
  unfold q_X0_tintWithFewest
  refine tryFewest_spec (gr_ne c) hn (th_lt c) (fun k i hk hi a => ne_th hi a) f1 f2 f3 (fun b trial' hB htr => ⟨11, twf_L7 (t := t) htr (fun w hw' => ?_) 10 0 worn rfl (fun j hj => by rw [if_neg (fun z => Nat.not_lt_zero j z.1)]; exact hw j hj)⟩)
  refine h b trial' w hB (RX_t r (fun j hj => ?_) hw')
  show (if (th_S c).testBit j = true then b j else t j) ≤ 10
  by_cases q : (th_S c).testBit j = true
  · rw [if_pos q]
    have := (hB.1.1.1 j hj q).2
    omega
  · rw [if_neg q]; exact ht j hj
theorem z_order (r : RX land there near worn c t) {by' : Bool} {P : Int32 → (Nat → Int32) → Prop} (h : ∀ worn', RX land there near worn' c (wkT (ne_S c) (ord (ne_S c) (th_S c) by') 0 t) → P (nI (wkM (ne_S c) (ord (ne_S c) (th_S c) by') 0 t 0)) worn') : q_X0_tintInOrder (bI by') there near worn P := by
  obtain ⟨hb, ht, hl, hth, hn, hw⟩ := id r
  subst hth
  have g := gr_ne c
  have h9 : ∀ k, k < 10 → ct (ne_S c k).testBit 10 ≤ 9 := fun k hk => ne_9 c hk
  have hle : ∀ j, j < 10 → wkT (ne_S c) (ord (ne_S c) (th_S c) by') 0 t j ≤ 10 := (wk_le h9 _ (fun j hj => ((ord_mem g.1 h9).mp hj).1) 0 t 0 ht (by decide)).1
  exact X0_order_spec hn g.1 h9 (fun k i hk hi a => ne_th hi a) ht hw (fun w' hw' => h w' (RX_t r hle hw'))
theorem pt_le {b : Nat → Bool} {v : Nat} (hb : ∀ i, i < 36 → c i ≤ 10) (hv : v ≤ 10) : ∀ i, i < 36 → pt c b v i ≤ 10 := fun i hi => by
  unfold pt
  by_cases q : b i = true
  · rw [if_pos q]; exact hv
  · rw [if_neg q]; exact hb i hi
theorem z_paint (r : RX land there near worn c t) {k j v : Nat} (hk : k < 6) (hj : j < 6) (hv : v ≤ 10) {P : Int32 → (Nat → Int64) → Int32 → (Nat → Int32) → Prop} (h : ∀ land' th' near', RX land' th' near' worn (pt c (bk k j k j) v) t → P (cv (c (6 * k + j))) land' th' near') : q_L_paint (nI k) (nI j) (cv v) land near there P := by
  obtain ⟨hb, ht, hl, hth, hn, hw⟩ := id r
  unfold q_L_paint
  refine X0_paint_a hl hb (fun q => (q.elim (fun q => not_badX hk q) (fun q => not_badX hj q)).elim) (fun k2 j2 _ _ _ _ q => ?_) (fun k2 j2 v2 h1 h2 h3 e1 e2 e3 land' near' q1 q2 => ?_)
  · exfalso
    rcases allP (cv v) with _ | _
    all_goals
      obtain ⟨q1, q2⟩ := q
      by_cases e : v = 10
      · subst e; exact q1 rfl
      · rw [cv_n (by omega)] at q2; exact not_badC (by omega) q2
  · have := (nI_eq (by omega) (by omega)).mp e1
    have := (nI_eq (by omega) (by omega)).mp e2
    have := (cv_inj hv h3).mp e3
    subst_vars
    exact h _ _ _ ⟨pt_le hb hv, ht, q1, rfl, q2, hw⟩
theorem g_paint_1 (r : RX land there near worn c t) {p q w : Int32} (hp : badX p ∨ badX q) {P : Int32 → (Nat → Int64) → Int32 → (Nat → Int32) → Prop} (h : P (-1000001) land there near) : q_L_paint p q w land near there P := by
  unfold q_L_paint
  refine X0_paint_a r.2.2.1 r.1 (fun _ => Or.inl ⟨rfl, h⟩) (fun k j h1 h2 e1 e2 _ => ?_) (fun k j v h1 h2 _ e1 e2 _ _ _ _ _ => ?_)
  all_goals
    subst e1 e2
    exact (hp.elim (fun q => not_badX h1 q) (fun q => not_badX h2 q)).elim
theorem g_paint_2 (r : RX land there near worn c t) {k j : Nat} (hk : k < 6) (hj : j < 6) {w : Int32} (hw : badP w) {P : Int32 → (Nat → Int64) → Int32 → (Nat → Int32) → Prop} (h : P (-1000002) land there near) : q_L_paint (nI k) (nI j) w land near there P := by
  unfold q_L_paint
  refine X0_paint_a r.2.2.1 r.1 (fun q => (q.elim (fun q => not_badX hk q) (fun q => not_badX hj q)).elim) (fun _ _ _ _ _ _ _ => Or.inr ⟨rfl, h⟩) (fun k2 j2 v h1 h2 hv e1 e2 e3 _ _ _ _ => ?_)
  exfalso
  subst e3
  obtain ⟨q1, q2⟩ := hw
  by_cases e : v = 10
  · subst e; exact q1 rfl
  · rw [cv_n (by omega)] at q2; exact not_badC (by omega) q2
theorem z_pb (r : RX land there near worn c t) {k j k2 j2 v : Nat} (hk : k ≤ k2) (hk2 : k2 < 6) (hj : j ≤ j2) (hj2 : j2 < 6) (hv : v ≤ 10) {P : Int32 → (Nat → Int64) → Int32 → (Nat → Int32) → Prop} (h : ∀ land' th' near', RX land' th' near' worn (pt c (bk k j k2 j2) v) t → P (nI (pbs c (bk k j k2 j2) v 36)) land' th' near') : q_L_paintBlock (nI k) (nI j) (nI k2) (nI j2) (cv v) land near there P := by
  obtain ⟨hb, ht, hl, hth, hn, hw⟩ := id r
  unfold q_L_paintBlock
  refine X0_pb_a hl hb (fun q => ?_) (fun k3 j3 k4 j4 h1 h2 h3 h4 e1 e2 e3 e4 q => ?_) (fun k3 j3 k4 j4 v2 h1 h2 h3 h4 h5 h6 h7 e1 e2 e3 e4 e5 land' near' q1 q2 => ?_)
  · exfalso
    rcases q with (q | q) | (q | q)
    · exact not_badX (by omega) q
    · exact not_badX (by omega) q
    · exact not_badX hk2 q
    · exact not_badX hj2 q
  · exfalso
    rcases q with q | q | q
    · obtain ⟨q1, q2⟩ := q
      by_cases e : v = 10
      · subst e; exact q1 rfl
      · rw [cv_n (by omega)] at q2; exact not_badC (by omega) q2
    · rw [← e1, ← e3] at q; exact absurd q (nI_nlt hk (by omega))
    · rw [← e2, ← e4] at q; exact absurd q (nI_nlt hj (by omega))
  · have := (nI_eq (by omega) (by omega)).mp e1
    have := (nI_eq (by omega) (by omega)).mp e2
    have := (nI_eq (by omega) (by omega)).mp e3
    have := (nI_eq (by omega) (by omega)).mp e4
    have := (cv_inj hv h5).mp e5
    subst_vars
    exact h _ _ _ ⟨pt_le hb hv, ht, q1, rfl, q2, hw⟩
theorem g_pb_1 (r : RX land there near worn c t) {p q p2 q2 w : Int32} (hp : (badX p ∨ badX q) ∨ (badX p2 ∨ badX q2)) {P : Int32 → (Nat → Int64) → Int32 → (Nat → Int32) → Prop} (h : P (-1000001) land there near) : q_L_paintBlock p q p2 q2 w land near there P := by
  unfold q_L_paintBlock
  refine X0_pb_a r.2.2.1 r.1 (fun _ => Or.inl ⟨rfl, h⟩) (fun k j k2 j2 h1 h2 h3 h4 e1 e2 e3 e4 _ => ?_) (fun k j k2 j2 v h1 h2 h3 h4 _ _ _ e1 e2 e3 e4 _ _ _ _ _ => ?_)
  all_goals
    subst e1 e2 e3 e4
    exfalso
    rcases hp with (q | q) | (q | q)
    · exact not_badX h1 q
    · exact not_badX h2 q
    · exact not_badX h3 q
    · exact not_badX h4 q
theorem g_pb_2 (r : RX land there near worn c t) {k j k2 j2 : Nat} (hk : k < 6) (hj : j < 6) (hk2 : k2 < 6) (hj2 : j2 < 6) {w : Int32} (hw : k2 < k ∨ j2 < j) {P : Int32 → (Nat → Int64) → Int32 → (Nat → Int32) → Prop} (h : P (-1000002) land there near) : q_L_paintBlock (nI k) (nI j) (nI k2) (nI j2) w land near there P := by
  unfold q_L_paintBlock
  refine X0_pb_a r.2.2.1 r.1 (fun q => ?_) (fun _ _ _ _ _ _ _ _ _ _ _ _ _ => Or.inr ⟨rfl, h⟩) (fun k3 j3 k4 j4 v h1 h2 h3 h4 _ h6 h7 e1 e2 e3 e4 _ _ _ _ _ => ?_)
  · exfalso
    rcases q with (q | q) | (q | q)
    · exact not_badX hk q
    · exact not_badX hj q
    · exact not_badX hk2 q
    · exact not_badX hj2 q
  · exfalso
    have := (nI_eq (by omega) (by omega)).mp e1
    have := (nI_eq (by omega) (by omega)).mp e2
    have := (nI_eq (by omega) (by omega)).mp e3
    have := (nI_eq (by omega) (by omega)).mp e4
    omega
end ANS
