/-! the law itself -/
theorem xAOA_args0 {args : Array Value} {U : State} (h : (Cond.arrayOver (.array .int)).before args U = true) : xAOA U := h
section XST
variable {X : xC} {l0 : Launch} {R0 : Room} {D0 : va_G} {cl0 : List vw_C} {tys0 : List (ClassId × FieldType)} {cc : ByteArray} {own : String} {Ts : List Cond} {nL cells slots pc : Nat} {lv lv' : List (Nat × Value)} {st : List Value} {ws : va_W}
def xao : xC → Prop
  | ((_, _, _, _, s, _, _, _, _, _), _) => xAOA s
theorem x_new (K : xk X l0 R0 D0 cl0 tys0 cc own Ts nL) {C : String} {T : u_T} {N ci index : Nat} (hin : ∀ w ∈ u_ws C T N, w ∈ Ts) (ty : Nat → FieldType) (hty : ∀ k, k < N → parseFieldDescriptor (T k).2.2.1 = some (ty k)) (hcl : Cond.classLink own index C ∈ Ts) (hinst : Cond.instantiable C N ∈ Ts) (hini : Cond.initialized C ∈ Ts) (hc : cl0[ci]? = some (C, T, N)) {fs : List Value} (hfs : ∀ j, j < N → defaultValue (ty j) = vp_V fs j) (hcells : cells + 1 ≤ R0.cells) (hslots : slots + N ≤ R0.slots) (d : decode cc pc = .ok (.new index, 3)) (kk : ∀ q : Nat, xw X (cells + 1) (slots + N) (pc + 3) lv (.ref q :: st) (ws ++ [(q, .inr (ci, fs))])) : xw X cells slots pc lv st ws := by
  obtain ⟨⟨p, l, e, R, s, m, args, below, meth, c⟩, ⟨D, cl, A, tys, nX, Q⟩⟩ := X
  obtain ⟨rfl, rfl, rfl, rfl, rfl, hx, hb, hml, rfl, hown, hts, hK, hA, hlk⟩ := K
  intro H locs ls hP hD hS hl
  exact va_new hx hb hts hin ty hty hown (hts _ hcl) (hts _ hinst) (hts _ hini) hK hP hD hS hA hc hfs hcells hslots d (fun q H1 hP1 hD1 hS1 => kk q H1 locs ls hP1 hD1 hS1 hl)
theorem x_ccallI (K : xk X l0 R0 D0 cl0 tys0 cc own Ts nL) (hao : xao X) {y : MethodName} {w w' : List Cond} {rm : Room} {bytes : ByteArray} {maxL idx b : Nat} {wc : va_W} {σ : Type} {wf : σ → va_W} {P : σ → Prop} {mc ms : Nat} (hM : xCon l0 y w rm D0 cl0 tys0 wc [.ref b] wf P mc ms) (hrc : rm.cells = mc) (hrs : rm.slots = ms) (hg : GoodIn Ts w) (hw : w = Cond.code y bytes maxL none :: w') (hini : Cond.initialized y.cls ∈ Ts) (hlink : Cond.methodLink own idx y ∈ Ts) (hinst : Cond.instanceMethod y ∈ Ts) (hy1 : y.name = "<init>") (hd : y.cls ≠ "java/lang/invoke/MethodHandle" ∧ y.cls ≠ "java/lang/invoke/VarHandle" ∧ (parseMethodDescriptor y.desc).map (fun d => d.parameters.length) = some 0) (hroom : rm.frames + 1 ≤ R0.frames ∧ 8 + (maxL + 11) + rm.locals ≤ R0.locals) (hcat : (st.map fun v => v.category).sum ≤ 8)
    (isC isR : List Nat) {wr : va_W} (hC : isC.map (fun i => ws[i]?) = wc.map some) (hRr : isR.map (fun i => ws[i]?) = wr.map some) (hnC : va_nd isC = true) (hnd : va_nd isR = true) (hdis : ∀ i ∈ isR, i ∉ isC) (d : decode cc pc = .ok (.invokespecial idx, 3)) (hf : cells + mc ≤ R0.cells ∧ slots + ms ≤ R0.slots)
    (kk : ∀ u : σ, P u → xw X (cells + mc) (slots + ms) (pc + 3) lv st (wr ++ wf u)) : xw X cells slots pc lv (.ref b :: st) ws := by
  obtain ⟨⟨p, l, e, R, s, m, args, below, meth, c⟩, ⟨D, cl, A, tys, nX, Q⟩⟩ := X
  obtain ⟨rfl, rfl, rfl, rfl, rfl, hx, hb, hml, rfl, hown, hts, hK, hA, hlk⟩ := K
  intro H locs ls hP hD hS hl
  have hPc := hP.sub (ws' := wc) isC (xfm hC)
  have hDc := hD.sub (ws' := wc) isC hnC hC
  have hFc := va_free (wc := wc) hD hS hA isC hC
  refine va_callv (va_runI (As := []) (rest := st) ⟨hx, hb, hml, hown, hts⟩ (hM H.size) (cwI 0 hts hg hw hrc hrs (hts _ hini) (hts _ hlink) (hts _ hinst) hy1 hd hroom) ⟨xPreC_blind, fun U hU hW => ⟨rfl, by rw [hU], by rw [hU]; exact hPc, va_K.moved hW.alike hK, hDc.weaken (fun _ _ _ _ => trivial), xAOA_moved hW.alike hao⟩⟩ rfl rfl hl.1 rfl (lv_room hcat) d hf) hS (fun q _ h => hFc q h) hFc (fun u t H1 locs ht hvm hw hB hz1 hk1 hS => ?_)
  obtain ⟨hP1, hK1, hD1⟩ := hB
  rw [ht] at hP1
  obtain ⟨hP, hD⟩ := va_join (wr := wr) (w1 := wf u) hP hD isC isR hC hRr hnd hdis hk1 hFc hP1 hD1
  exact kk u hw H1 locs ls hP hD hS hl
end XST
theorem le_ltA9 {a b : Int32} (h : a ≤ b) (h2 : b < a) : False := by
  rw [Int32.le_iff_toInt_le] at h
  rw [Int32.lt_iff_toInt_lt] at h2
  omega
theorem lt_nle9 {a b : Int32} (h : ¬ a ≤ b) : b < a := by
  rw [Int32.le_iff_toInt_le] at h
  rw [Int32.lt_iff_toInt_lt]
  omega
abbrev rm_L_at : Room := { frames := 8, cells := 0, slots := 0, locals := 120 }
theorem kL_at_0 : Cond.constant RL 7 (1803870919) ∈ wsL_at := by decide +kernel
theorem kL_at_1 : Cond.constant RL 8 (1106744077) ∈ wsL_at := by decide +kernel
set_option maxHeartbeats 4000000 in
set_option maxRecDepth 100000 in
theorem c_L_at (l : Launch) (b L : Nat) (xs : Nat → Int32) (k : Int32) (P : Int32 → Prop) (h : q_L_at L xs k P) : xSi l yL_at wsL_at rm_L_at b L xs [.ref b, .int k] P := by
  refine xSi_of (cc := cL_at) (maxL := 2) (by decide) rfl (Nat.le_of_ble_eq_true rfl) ?_
  intro X K hsc hE
  unfold q_L_at at h
  refine x_iload_n (pc := 0) K dL_at_0 1 rfl rfl ?_
  refine x_aload_n (pc := 1) K dL_at_1 0 rfl rfl ?_
  refine x_slen (pc := 2) K hsc dL_at_2 ?_
  refine x_icmp_ge (pc := 3) K dL_at_3 (tgt := 12) (by decide) (fun c9 => ?_) (fun c9 => ?_)
  · have h := h.2 (fun q => le_ltA9 c9 q)
    refine x_ldc (pc := 12) (v := (1803870919)) K kL_at_0 dL_at_12 ?_
    refine x_iload_n (pc := 14) K dL_at_14 1 rfl rfl ?_
    refine x_iconst (v := 1) (pc := 15) K dL_at_15 (by decide) ?_
    refine x_iadd (pc := 16) K dL_at_16 ?_
    refine x_imul (pc := 17) K dL_at_17 ?_
    refine x_ldc (pc := 18) (v := (1106744077)) K kL_at_1 dL_at_18 ?_
    refine x_iadd (pc := 20) K dL_at_20 ?_
    exact hE _ _ _ h dL_at_21
  · have h := h.1 (lt_nle9 c9)
    refine x_aload_n (pc := 6) K dL_at_6 0 rfl rfl ?_
    refine x_iload_n (pc := 7) K dL_at_7 1 rfl rfl ?_
    refine x_sld (pc := 8) K hsc h.1 dL_at_8 ?_
    refine x_goto (pc := 9) K dL_at_9 (tgt := 21) (by decide) ?_
    exact hE _ _ _ h.2 dL_at_21
theorem kL_law_0 : Cond.arrayClass .int ∈ wsL_law := by decide +kernel
theorem kL_law_1 : Cond.constant RL 18 (-1000001) ∈ wsL_law := by decide +kernel
theorem k_law_new0 : Cond.classLink RL 11 RX0 ∈ wsL_law := by decide +kernel
theorem k_law_ins0 : Cond.instantiable RX0 8 ∈ wsL_law := by decide +kernel
theorem k_law_ini0 : Cond.initialized RX0 ∈ wsL_law := by decide +kernel
theorem k_law_l0 : Cond.methodLink RL 154 yX0_init ∈ wsL_law := by decide +kernel
theorem k_law_i0 : Cond.instanceMethod yX0_init ∈ wsL_law := by decide +kernel
def q_L_law_L72 (L : Nat) (xs : Nat → Int32) (P0 : Int32 → (Nat → Int64) → Int32 → (Nat → Int32) → (Nat → Int32) → (Nat → Int32) → (Nat → Int32) → (Nat → Int64) → (Nat → Nat → Int32) → (Nat → Int32) → Prop) : Nat → Int32 → Int32 → (Nat → Int64) → Int32 → (Nat → Int32) → (Nat → Int32) → (Nat → Int32) → (Nat → Int32) → (Nat → Int64) → (Nat → Nat → Int32) → (Nat → Int32) → Prop
  | 0, _, _, _, _, _, _, _, _, _, _, _ => False
  | n + 1, x3, x4, land, there, near, worn, trial, fits, ways, joined, nb => (((40 : Int32) ≤ x4 → P0 x3 land there near worn trial fits ways joined nb) ∧ (¬ (40 : Int32) ≤ x4 → ((x3 = (0 : Int32) → P0 x3 land there near worn trial fits ways joined nb) ∧ (¬ x3 = (0 : Int32) → q_L_at L xs ((2 : Int32) * x4) (fun (r6 : Int32) => q_L_at L xs (((2 : Int32) * x4) + (1 : Int32)) (fun (r7 : Int32) => q_L_paints r6 r7 land there near (fun (r11 : Int32) (land_8 : Nat → Int64) (there_9 : Int32) (near_10 : Nat → Int32) => xj2 (fun (v13 : Int32) (v14 : Nat → Int32) => q_L_low (r6 >>> ((10 : Int32) &&& 31)) (10 : Int32) (fun (r15 : Int32) => q0_L_tintOf r15 worn (fun (r16 : Int32) => xj2 (fun (v18 : Int32) (v19 : Nat → Int32) => ((v18 = (0 : Int32) → q_L_law_L72 L xs P0 n v18 (x4 + (1 : Int32)) land_8 there_9 near_10 v19 trial fits ways joined v14) ∧ (¬ v18 = (0 : Int32) → ((¬ (x4 - x4 / (4 : Int32) * (4 : Int32)) = (3 : Int32) → q_L_law_L72 L xs P0 n v18 (x4 + (1 : Int32)) land_8 there_9 near_10 v19 trial fits ways joined v14) ∧ ((x4 - x4 / (4 : Int32) * (4 : Int32)) = (3 : Int32) → q_L_counts there_9 near_10 trial fits ways joined v14 (fun (r24 : Int32) (trial_20 : Nat → Int32) (fits_21 : Nat → Int32) (ways_22 : Nat → Int64) (joined_23 : Nat → Nat → Int32) => ((r24 = (0 : Int32) → q_L_law_L72 L xs P0 n (0 : Int32) (x4 + (1 : Int32)) land_8 there_9 near_10 v19 trial_20 fits_21 ways_22 joined_23 v14) ∧ (¬ r24 = (0 : Int32) → q_L_low (r6 >>> ((18 : Int32) &&& 31)) (2 : Int32) (fun (r25 : Int32) => xj1 (fun (v27 : Int32) => q_L_orders v27 land_8 there_9 near_10 v19 trial_20 v14 (fun (r30 : Int32) (worn_28 : Nat → Int32) (trial_29 : Nat → Int32) => ((r30 = (0 : Int32) → q_L_law_L72 L xs P0 n (0 : Int32) (x4 + (1 : Int32)) land_8 there_9 near_10 worn_28 trial_29 fits_21 ways_22 joined_23 v14) ∧ (¬ r30 = (0 : Int32) → q_L_tints land_8 there_9 near_10 worn_28 v14 (fun (r32 : Int32) (worn_31 : Nat → Int32) => ((r32 = (0 : Int32) → q_L_law_L72 L xs P0 n (0 : Int32) (x4 + (1 : Int32)) land_8 there_9 near_10 worn_31 trial_29 fits_21 ways_22 joined_23 v14) ∧ (¬ r32 = (0 : Int32) → q_L_low (r7 >>> ((5 : Int32) &&& 31)) (10 : Int32) (fun (r33 : Int32) => q_L_low (r6 >>> ((5 : Int32) &&& 31)) (4 : Int32) (fun (r34 : Int32) => q_L_chains r33 ((1 : Int32) + r34) land_8 there_9 near_10 worn_31 (fun (r36 : Int32) (worn_35 : Nat → Int32) => ((r36 = (0 : Int32) → q_L_law_L72 L xs P0 n (0 : Int32) (x4 + (1 : Int32)) land_8 there_9 near_10 worn_35 trial_29 fits_21 ways_22 joined_23 v14) ∧ (¬ r36 = (0 : Int32) → q_L_law_L72 L xs P0 n (1 : Int32) (x4 + (1 : Int32)) land_8 there_9 near_10 worn_35 trial_29 fits_21 ways_22 joined_23 v14)))))))))))) (fun (J26 : Int32 → Prop) => ((¬ r25 = (0 : Int32) → J26 (0 : Int32)) ∧ (r25 = (0 : Int32) → J26 (1 : Int32))))))))))))) (fun (J17 : Int32 → (Nat → Int32) → Prop) => xj1 (fun (v38 : Nat → Int32) => J17 (0 : Int32) v38) (fun (J37 : (Nat → Int32) → Prop) => ((v13 = (0 : Int32) → J37 worn) ∧ (¬ v13 = (0 : Int32) → q_L_low (r6 >>> ((10 : Int32) &&& 31)) (10 : Int32) (fun (r39 : Int32) => q_L_low (r7 >>> ((13 : Int32) &&& 31)) (11 : Int32) (fun (r40 : Int32) => q_L_tint r39 r40 worn (fun (r42 : Int32) (worn_41 : Nat → Int32) => ((¬ r42 = r16 → J37 worn_41) ∧ (r42 = r16 → q_L_low (r6 >>> ((10 : Int32) &&& 31)) (10 : Int32) (fun (r43 : Int32) => q0_L_tintOf r43 worn_41 (fun (r44 : Int32) => q_L_low (r7 >>> ((13 : Int32) &&& 31)) (11 : Int32) (fun (r45 : Int32) => ((¬ r44 = r45 → J37 worn_41) ∧ (r44 = r45 → q_L_tints land_8 there_9 near_10 worn_41 v14 (fun (r47 : Int32) (worn_46 : Nat → Int32) => ((r47 = (0 : Int32) → J37 worn_46) ∧ (¬ r47 = (0 : Int32) → q_L_low (r6 >>> ((14 : Int32) &&& 31)) (10 : Int32) (fun (r48 : Int32) => q_L_low (r7 >>> ((17 : Int32) &&& 31)) (10 : Int32) (fun (r49 : Int32) => q_L_chains r48 ((1 : Int32) + r49) land_8 there_9 near_10 worn_46 (fun (r51 : Int32) (worn_50 : Nat → Int32) => ((r51 = (0 : Int32) → J37 worn_50) ∧ (¬ r51 = (0 : Int32) → J17 (1 : Int32) worn_50))))))))))))))))))))))))) (fun (J12 : Int32 → (Nat → Int32) → Prop) => xj1 (fun (v53 : Nat → Int32) => J12 (0 : Int32) v53) (fun (J52 : (Nat → Int32) → Prop) => ((r11 = (0 : Int32) → J52 nb) ∧ (¬ r11 = (0 : Int32) → q_L_looks land_8 there_9 near_10 nb (fun (r55 : Int32) (nb_54 : Nat → Int32) => ((r55 = (0 : Int32) → J52 nb_54) ∧ (¬ r55 = (0 : Int32) → q_L_low (r7 >>> ((12 : Int32) &&& 31)) (10 : Int32) (fun (r56 : Int32) => q_L_encloses r56 land_8 (fun (r57 : Int32) => ((r57 = (0 : Int32) → J52 nb_54) ∧ (¬ r57 = (0 : Int32) → J12 (1 : Int32) nb_54))))))))))))))))))
def q_L_law (L : Nat) (xs : Nat → Int32) : Prop := q_X0_countries 0 (fun (r1 : Int32) => xj3 (fun (v3 : Int32) (v4 : Nat → Int32) (v5 : Nat → Int32) => (∃ n58 : Nat, n58 ≤ 50 ∧ q_L_law_L72 L xs (fun (v59 : Int32) (v60 : Nat → Int64) (v61 : Int32) (v62 : Nat → Int32) (v63 : Nat → Int32) (v64 : Nat → Int32) (v65 : Nat → Int32) (v66 : Nat → Int64) (v67 : Nat → Nat → Int32) (v68 : Nat → Int32) => v59 = 1) n58 v3 (0 : Int32) (fun _ => 0) 0 (fun _ => 0) (fun _ => 0) v4 v5 (fun _ => 0) (fun _ _ => 0) (fun _ => 0))) (fun (J2 : Int32 → (Nat → Int32) → (Nat → Int32) → Prop) => xj2 (fun (v70 : Nat → Int32) (v71 : Nat → Int32) => J2 (0 : Int32) v70 v71) (fun (J69 : (Nat → Int32) → (Nat → Int32) → Prop) => ((¬ r1 = (0 : Int32) → J69 (fun _ => 0) (fun _ => 0)) ∧ (r1 = (0 : Int32) → q_X0_isTinted 0 (fun _ => 0) (fun _ => 0) (fun (r72 : Int32) => ((r72 = (0 : Int32) → J69 (fun _ => 0) (fun _ => 0)) ∧ (¬ r72 = (0 : Int32) → q_X0_fewestTints 0 (fun _ => 0) (fun _ => 0) (fun (r74 : Int32) (trial_73 : Nat → Int32) => ((¬ r74 = (0 : Int32) → J69 trial_73 (fun _ => 0)) ∧ (r74 = (0 : Int32) → q_X0_allNeighbours 0 (fun _ => 0) (fun _ => 0) (fun (r76 : Int32) (fits_75 : Nat → Int32) => ((¬ r76 = (0 : Int32) → J69 trial_73 fits_75) ∧ (r76 = (0 : Int32) → q0_L_countryAt (5 : Int32) (5 : Int32) (fun _ => 0) (fun (r77 : Int32) => ((¬ r77 = (-1 : Int32) → J69 trial_73 fits_75) ∧ (r77 = (-1 : Int32) → q_L_countryAt (5 : Int32) (6 : Int32) (fun _ => 0) (fun (r78 : Int32) => ((¬ r78 = (-1000001 : Int32) → J69 trial_73 fits_75) ∧ (r78 = (-1000001 : Int32) → J2 (1 : Int32) trial_73 fits_75))))))))))))))))))))
set_option maxHeartbeats 4000000 in
set_option maxRecDepth 100000 in
theorem w_L_law_L72 {X : xC} {l : Launch} {D : va_G} {cI cJ cZ cA : ClassId} {V : Nat → Nat} {a_nb b : Nat} {L : Nat} {xs : Nat → Int32} (K : xk X l room_1 D vwCl (xtys cI cJ cZ cA) cL_law RL wsL_law 8) (hE : xEx X RX0 [(61, "the block ends before it begins"), (180, "there is no such row or column"), (183, "there is no such country"), (185, "neither a country nor sea"), (187, "there is no such tint"), (189, "there are not so many tints"), (193, "the country is not there or has no tint")]) (hN : xno X) (hst : l.stackTraces = false) (hsc : xsc X b L xs) (P0 : Int32 → (Nat → Int64) → Int32 → (Nat → Int32) → (Nat → Int32) → (Nat → Int32) → (Nat → Int32) → (Nat → Int64) → (Nat → Nat → Int32) → (Nat → Int32) → Prop) : ∀ (n : Nat) (x3 : Int32) (x4 : Int32) (land : Nat → Int64) (there : Int32) (near : Nat → Int32) (worn : Nat → Int32) (trial : Nat → Int32) (fits : Nat → Int32) (ways : Nat → Int64) (joined : Nat → Nat → Int32) (nb : Nat → Int32) (mc9 ms9 : Nat), mc9 + n * 71 ≤ 599000 → ms9 + n * 518 ≤ 7300000 → q_L_law_L72 L xs P0 n x3 x4 land there near worn trial fits ways joined nb → (∀ (z0 : Int32) (z1 : Nat → Int64) (z2 : Int32) (z3 : Nat → Int32) (z4 : Nat → Int32) (z5 : Nat → Int32) (z6 : Nat → Int32) (z7 : Nat → Int64) (z8 : Nat → Nat → Int32) (z9 : Nat → Int32), P0 z0 z1 z2 z3 z4 z5 z6 z7 z8 z9 → xw X 600086 7301442 357 [(3, .int z0)] [] ((wX0J cI cJ cZ cA V z1 z2 z3 z4 z5 z6 z7 z8) ++ [(a_nb, .inl (cI, 10, .inl z9))])) → xw X mc9 ms9 72 [(0, .ref b), (1, .ref (V 0)), (2, .ref a_nb), (3, .int x3), (4, .int x4)] [] ((wX0J cI cJ cZ cA V land there near worn trial fits ways joined) ++ [(a_nb, .inl (cI, 10, .inl nb))]) := by
  intro n
  induction n with
  | zero =>
    intro x3 x4 land there near worn trial fits ways joined nb mc9 ms9 _ _ h
    rw [q_L_law_L72] at h
    exact h.elim
  | succ n ih =>
    intro x3 x4 land there near worn trial fits ways joined nb mc9 ms9 hc hs h k0
    rw [q_L_law_L72] at h
    refine x_iload (pc := 72) K dL_law_72 4 rfl ?_
    refine x_bipush (v := (40)) (pc := 74) K dL_law_74 (by decide) ?_
    refine x_icmp_ge (pc := 76) K dL_law_76 (tgt := 357) (by decide) (fun c9 => ?_) (fun c9 => ?_)
    · have h := h.1 c9
      refine x_widen (k := 600086) (n := 7301442) (by omega) (by omega) ?_
      refine x_keep [false, false, false, true, false] rfl ?_
      exact k0 x3 land there near worn trial fits ways joined nb h
    · have h := h.2 c9
      refine x_iload_n (pc := 79) K dL_law_79 3 rfl rfl ?_
      refine x_if_eq (pc := 80) K dL_law_80 (tgt := 357) (by decide) (fun c9 => ?_) (fun c9 => ?_)
      · have h := h.1 c9
        refine x_widen (k := 600086) (n := 7301442) (by omega) (by omega) ?_
        refine x_keep [false, false, false, true, false] rfl ?_
        exact k0 x3 land there near worn trial fits ways joined nb h
      · have h := h.2 c9
        refine x_keep [true, true, true, false, true] rfl ?_
        refine x_aload_n (pc := 83) K dL_law_83 0 rfl rfl ?_
        refine x_iconst (v := (2)) (pc := 84) K dL_law_84 (by decide) ?_
        refine x_iload (pc := 85) K dL_law_85 3 rfl ?_
        refine x_imul (pc := 87) K dL_law_87 ?_
        refine x_atcall (pc := 88) (n := 2) K hsc (c_L_at l b L xs ((2 : Int32) * x4) _ h) rfl rfl gL_law_L_at rfl (by decide +kernel) ⟨Nat.le_of_ble_eq_true rfl, Nat.le_of_ble_eq_true rfl⟩ rfl (av := [.ref b, .int ((2 : Int32) * x4)]) rfl (Nat.le_of_ble_eq_true rfl) dL_law_88 ⟨(by show _ ≤ 600086; omega), (by show _ ≤ 7301442; omega)⟩ (fun r6 h => ?_)
        refine x_istore (lv' := [(0, .ref b), (1, .ref (V 0)), (2, .ref a_nb), (4, .int x4), (5, .int r6)]) (pc := 91) K dL_law_91 (by decide) rfl ?_
        refine x_aload_n (pc := 93) K dL_law_93 0 rfl rfl ?_
        refine x_iconst (v := (2)) (pc := 94) K dL_law_94 (by decide) ?_
        refine x_iload (pc := 95) K dL_law_95 3 rfl ?_
        refine x_imul (pc := 97) K dL_law_97 ?_
        refine x_iconst (v := (1)) (pc := 98) K dL_law_98 (by decide) ?_
        refine x_iadd (pc := 99) K dL_law_99 ?_
        refine x_atcall (pc := 100) (n := 2) K hsc (c_L_at l b L xs (((2 : Int32) * x4) + (1 : Int32)) _ h) rfl rfl gL_law_L_at rfl (by decide +kernel) ⟨Nat.le_of_ble_eq_true rfl, Nat.le_of_ble_eq_true rfl⟩ rfl (av := [.ref b, .int (((2 : Int32) * x4) + (1 : Int32))]) rfl (Nat.le_of_ble_eq_true rfl) dL_law_100 ⟨(by show _ ≤ 600086; omega), (by show _ ≤ 7301442; omega)⟩ (fun r7 h => ?_)
        refine x_istore (lv' := [(0, .ref b), (1, .ref (V 0)), (2, .ref a_nb), (4, .int x4), (5, .int r6), (6, .int r7)]) (pc := 103) K dL_law_103 (by decide) rfl ?_
        refine x_aload_n (pc := 105) K dL_law_105 1 rfl rfl ?_
        refine x_iload (pc := 106) K dL_law_106 4 rfl ?_
        refine x_iload (pc := 108) K dL_law_108 5 rfl ?_
        refine x_gcallSz (pc := 110) (n := 3) K hE hN (by decide) (c_L_paints l D cI cJ cZ cA hst V r6 r7 land there near worn trial fits ways joined _ h) rfl rfl gL_law_L_paints rfl (by decide +kernel) ⟨Nat.le_of_ble_eq_true rfl, Nat.le_of_ble_eq_true rfl⟩ rfl (av := [.ref (V 0), .int r6, .int r7]) rfl (Nat.le_of_ble_eq_true rfl) [0, 1, 2, 3, 4, 5, 6, 7, 8, 9, 10, 11, 12, 13, 14, 15, 16, 17] [18] (wr := [(a_nb, .inl (cI, 10, .inl nb))]) rfl rfl rfl rfl (by decide) dL_law_110 ⟨(by show _ ≤ 600086; omega), (by show _ ≤ 7301442; omega)⟩ (fun r11 u9 h => ?_)
        obtain ⟨land_8, there_9, near_10⟩ := u9
        refine x_wsub (ws' := ((wX0J cI cJ cZ cA V land_8 there_9 near_10 worn trial fits ways joined) ++ [(a_nb, .inl (cI, 10, .inl nb))])) [1, 2, 3, 4, 5, 6, 7, 8, 9, 10, 11, 12, 13, 14, 15, 16, 17, 18, 0] rfl rfl ?_
        obtain ⟨J12, hJ12, h⟩ := xj2_o h
        have kJ12 : ∀ (v13 : Int32) (v14 : Nat → Int32), J12 v13 v14 → xw X (mc9 + 27) (ms9 + 254) 146 [(0, .ref b), (1, .ref (V 0)), (2, .ref a_nb), (4, .int x4), (5, .int r6), (6, .int r7)] [.int v13] ((wX0J cI cJ cZ cA V land_8 there_9 near_10 worn trial fits ways joined) ++ [(a_nb, .inl (cI, 10, .inl v14))]) := by
          intro v13 v14 hj
          have h := hJ12 v13 v14 hj
          refine x_istore_n (lv' := [(0, .ref b), (1, .ref (V 0)), (2, .ref a_nb), (3, .int v13), (4, .int x4), (5, .int r6), (6, .int r7)]) (pc := 146) K dL_law_146 rfl (by decide) rfl ?_
          refine x_aload_n (pc := 147) K dL_law_147 1 rfl rfl ?_
          refine x_iload (pc := 148) K dL_law_148 5 rfl ?_
          refine x_bipush (v := (10)) (pc := 150) K dL_law_150 (by decide) ?_
          refine x_ishr (pc := 152) K dL_law_152 ?_
          refine x_bipush (v := (10)) (pc := 153) K dL_law_153 (by decide) ?_
          refine x_pcallSi (pc := 155) (n := 2) K (c_L_low l D cI cJ cZ cA (r6 >>> ((10 : Int32) &&& 31)) (10 : Int32) _ h) rfl rfl gL_law_L_low rfl (by decide +kernel) ⟨Nat.le_of_ble_eq_true rfl, Nat.le_of_ble_eq_true rfl⟩ rfl (av := [.int (r6 >>> ((10 : Int32) &&& 31)), .int (10 : Int32)]) rfl (Nat.le_of_ble_eq_true rfl) dL_law_155 ⟨(by show _ ≤ 600086; omega), (by show _ ≤ 7301442; omega)⟩ (fun r15 u9 h => ?_)
          refine x_wcallSi (pc := 158) (n := 2) K (c0_L_tintOf l D cI cJ cZ cA V r15 land_8 there_9 near_10 worn trial fits ways joined _ h) rfl rfl gL_law_L_tintOf rfl (by decide +kernel) ⟨Nat.le_of_ble_eq_true rfl, Nat.le_of_ble_eq_true rfl⟩ rfl (av := [.ref (V 0), .int r15]) rfl (Nat.le_of_ble_eq_true rfl) [0, 1, 2, 3, 4, 5, 6, 7, 8, 9, 10, 11, 12, 13, 14, 15, 16, 17] [18] (wr := [(a_nb, .inl (cI, 10, .inl v14))]) rfl rfl rfl rfl (by decide) dL_law_158 ⟨(by show _ ≤ 600086; omega), (by show _ ≤ 7301442; omega)⟩ (fun r16 u9 h => ?_)
          refine x_wsub (ws' := ((wX0J cI cJ cZ cA V land_8 there_9 near_10 worn trial fits ways joined) ++ [(a_nb, .inl (cI, 10, .inl v14))])) [1, 2, 3, 4, 5, 6, 7, 8, 9, 10, 11, 12, 13, 14, 15, 16, 17, 18, 0] rfl rfl ?_
          refine x_istore (lv' := [(0, .ref b), (1, .ref (V 0)), (2, .ref a_nb), (3, .int v13), (4, .int x4), (5, .int r6), (6, .int r7), (7, .int r16)]) (pc := 161) K dL_law_161 (by decide) rfl ?_
          refine x_iload_n (pc := 163) K dL_law_163 3 rfl rfl ?_
          obtain ⟨J17, hJ17, h⟩ := xj2_o h
          have kJ17 : ∀ (v18 : Int32) (v19 : Nat → Int32), J17 v18 v19 → xw X (mc9 + 49) (ms9 + 386) 265 [(0, .ref b), (1, .ref (V 0)), (2, .ref a_nb), (4, .int x4), (5, .int r6), (6, .int r7)] [.int v18] ((wX0J cI cJ cZ cA V land_8 there_9 near_10 v19 trial fits ways joined) ++ [(a_nb, .inl (cI, 10, .inl v14))]) := by
            intro v18 v19 hj
            have h := hJ17 v18 v19 hj
            refine x_istore_n (lv' := [(0, .ref b), (1, .ref (V 0)), (2, .ref a_nb), (3, .int v18), (4, .int x4), (5, .int r6), (6, .int r7)]) (pc := 265) K dL_law_265 rfl (by decide) rfl ?_
            refine x_iload_n (pc := 266) K dL_law_266 3 rfl rfl ?_
            refine x_if_eq (pc := 267) K dL_law_267 (tgt := 351) (by decide) (fun c9 => ?_) (fun c9 => ?_)
            · have h := h.1 c9
              refine x_keep [true, true, true, true, true, false, false] rfl ?_
              refine x_iinc (v := x4 + (1 : Int32)) (lv' := [(0, .ref b), (1, .ref (V 0)), (2, .ref a_nb), (3, .int v18), (4, .int (x4 + (1 : Int32)))]) (pc := 351) K dL_law_351 (k := 4) rfl rfl (by decide) rfl ?_
              refine x_goto (pc := 354) K dL_law_354 (tgt := 72) (by decide) ?_
              exact ih v18 (x4 + (1 : Int32)) land_8 there_9 near_10 v19 trial fits ways joined v14 (mc9 + 49) (ms9 + 386) (by omega) (by omega) h k0
            · have h := h.2 c9
              refine x_iload (pc := 270) K dL_law_270 4 rfl ?_
              refine x_iconst (v := (4)) (pc := 272) K dL_law_272 (by decide) ?_
              refine x_irem (pc := 273) K (by decide) dL_law_273 ?_
              refine x_iconst (v := (3)) (pc := 274) K dL_law_274 (by decide) ?_
              refine x_icmp_ne (pc := 275) K dL_law_275 (tgt := 351) (by decide) (fun c9 => ?_) (fun c9 => ?_)
              · have h := h.1 c9
                refine x_keep [true, true, true, true, true, false, false] rfl ?_
                refine x_iinc (v := x4 + (1 : Int32)) (lv' := [(0, .ref b), (1, .ref (V 0)), (2, .ref a_nb), (3, .int v18), (4, .int (x4 + (1 : Int32)))]) (pc := 351) K dL_law_351 (k := 4) rfl rfl (by decide) rfl ?_
                refine x_goto (pc := 354) K dL_law_354 (tgt := 72) (by decide) ?_
                exact ih v18 (x4 + (1 : Int32)) land_8 there_9 near_10 v19 trial fits ways joined v14 (mc9 + 49) (ms9 + 386) (by omega) (by omega) h k0
              · have h := h.2 c9
                refine x_keep [true, true, true, false, true, true, true] rfl ?_
                refine x_aload_n (pc := 278) K dL_law_278 1 rfl rfl ?_
                refine x_aload_n (pc := 279) K dL_law_279 2 rfl rfl ?_
                refine x_gcallSz (pc := 280) (n := 2) K hE hN (by decide) (c_L_counts l D cI cJ cZ cA hst V a_nb land_8 there_9 near_10 v19 trial fits ways joined v14 _ h) rfl rfl gL_law_L_counts rfl (by decide +kernel) ⟨Nat.le_of_ble_eq_true rfl, Nat.le_of_ble_eq_true rfl⟩ rfl (av := [.ref (V 0), .ref a_nb]) rfl (Nat.le_of_ble_eq_true rfl) [0, 1, 2, 3, 4, 5, 6, 7, 8, 9, 10, 11, 12, 13, 14, 15, 16, 17, 18] [] (wr := []) rfl rfl rfl rfl (by decide) dL_law_280 ⟨(by show _ ≤ 600086; omega), (by show _ ≤ 7301442; omega)⟩ (fun r24 u9 h => ?_)
                obtain ⟨trial_20, fits_21, ways_22, joined_23⟩ := u9
                refine x_wsub (ws' := ((wX0J cI cJ cZ cA V land_8 there_9 near_10 v19 trial_20 fits_21 ways_22 joined_23) ++ [(a_nb, .inl (cI, 10, .inl v14))])) [0, 1, 2, 3, 4, 5, 6, 7, 8, 9, 10, 11, 12, 13, 14, 15, 16, 17, 18] rfl rfl ?_
                refine x_if_eq (pc := 283) K dL_law_283 (tgt := 349) (by decide) (fun c9 => ?_) (fun c9 => ?_)
                · have h := h.1 c9
                  refine x_keep [true, true, true, true, false, false] rfl ?_
                  refine x_iconst (v := (0)) (pc := 349) K dL_law_349 (by decide) ?_
                  refine x_istore_n (lv' := [(0, .ref b), (1, .ref (V 0)), (2, .ref a_nb), (3, .int (0 : Int32)), (4, .int x4)]) (pc := 350) K dL_law_350 rfl (by decide) rfl ?_
                  refine x_iinc (v := x4 + (1 : Int32)) (lv' := [(0, .ref b), (1, .ref (V 0)), (2, .ref a_nb), (3, .int (0 : Int32)), (4, .int (x4 + (1 : Int32)))]) (pc := 351) K dL_law_351 (k := 4) rfl rfl (by decide) rfl ?_
                  refine x_goto (pc := 354) K dL_law_354 (tgt := 72) (by decide) ?_
                  exact ih (0 : Int32) (x4 + (1 : Int32)) land_8 there_9 near_10 v19 trial_20 fits_21 ways_22 joined_23 v14 (mc9 + 51) (ms9 + 398) (by omega) (by omega) h k0
                · have h := h.2 c9
                  refine x_aload_n (pc := 286) K dL_law_286 1 rfl rfl ?_
                  refine x_aload_n (pc := 287) K dL_law_287 2 rfl rfl ?_
                  refine x_iload (pc := 288) K dL_law_288 4 rfl ?_
                  refine x_bipush (v := (18)) (pc := 290) K dL_law_290 (by decide) ?_
                  refine x_ishr (pc := 292) K dL_law_292 ?_
                  refine x_iconst (v := (2)) (pc := 293) K dL_law_293 (by decide) ?_
                  refine x_pcallSi (pc := 294) (n := 2) K (c_L_low l D cI cJ cZ cA (r6 >>> ((18 : Int32) &&& 31)) (2 : Int32) _ h) rfl rfl gL_law_L_low rfl (by decide +kernel) ⟨Nat.le_of_ble_eq_true rfl, Nat.le_of_ble_eq_true rfl⟩ rfl (av := [.int (r6 >>> ((18 : Int32) &&& 31)), .int (2 : Int32)]) rfl (Nat.le_of_ble_eq_true rfl) dL_law_294 ⟨(by show _ ≤ 600086; omega), (by show _ ≤ 7301442; omega)⟩ (fun r25 u9 h => ?_)
                  obtain ⟨J26, hJ26, h⟩ := xj1_o h
                  have kJ26 : ∀ (v27 : Int32), J26 v27 → xw X (mc9 + 51) (ms9 + 398) 305 [(0, .ref b), (1, .ref (V 0)), (2, .ref a_nb), (4, .int x4), (5, .int r6), (6, .int r7)] [.int v27, .ref a_nb, .ref (V 0)] ((wX0J cI cJ cZ cA V land_8 there_9 near_10 v19 trial_20 fits_21 ways_22 joined_23) ++ [(a_nb, .inl (cI, 10, .inl v14))]) := by
                    intro v27 hj
                    have h := hJ26 v27 hj
                    refine x_callSz (pc := 305) (n := 3) K (c_L_orders l D cI cJ cZ cA V a_nb v27 land_8 there_9 near_10 v19 trial_20 fits_21 ways_22 joined_23 v14 _ h) rfl rfl gL_law_L_orders rfl (by decide +kernel) ⟨Nat.le_of_ble_eq_true rfl, Nat.le_of_ble_eq_true rfl⟩ rfl (av := [.ref (V 0), .ref a_nb, .int v27]) rfl (Nat.le_of_ble_eq_true rfl) [0, 1, 2, 3, 4, 5, 6, 7, 8, 9, 10, 11, 12, 13, 14, 15, 16, 17, 18] [] (wr := []) rfl rfl rfl rfl (by decide) dL_law_305 ⟨(by show _ ≤ 600086; omega), (by show _ ≤ 7301442; omega)⟩ (fun r30 u9 h => ?_)
                    obtain ⟨worn_28, trial_29⟩ := u9
                    refine x_wsub (ws' := ((wX0J cI cJ cZ cA V land_8 there_9 near_10 worn_28 trial_29 fits_21 ways_22 joined_23) ++ [(a_nb, .inl (cI, 10, .inl v14))])) [0, 1, 2, 3, 4, 5, 6, 7, 8, 9, 10, 11, 12, 13, 14, 15, 16, 17, 18] rfl rfl ?_
                    refine x_if_eq (pc := 308) K dL_law_308 (tgt := 349) (by decide) (fun c9 => ?_) (fun c9 => ?_)
                    · have h := h.1 c9
                      refine x_keep [true, true, true, true, false, false] rfl ?_
                      refine x_iconst (v := (0)) (pc := 349) K dL_law_349 (by decide) ?_
                      refine x_istore_n (lv' := [(0, .ref b), (1, .ref (V 0)), (2, .ref a_nb), (3, .int (0 : Int32)), (4, .int x4)]) (pc := 350) K dL_law_350 rfl (by decide) rfl ?_
                      refine x_iinc (v := x4 + (1 : Int32)) (lv' := [(0, .ref b), (1, .ref (V 0)), (2, .ref a_nb), (3, .int (0 : Int32)), (4, .int (x4 + (1 : Int32)))]) (pc := 351) K dL_law_351 (k := 4) rfl rfl (by decide) rfl ?_
                      refine x_goto (pc := 354) K dL_law_354 (tgt := 72) (by decide) ?_
                      exact ih (0 : Int32) (x4 + (1 : Int32)) land_8 there_9 near_10 worn_28 trial_29 fits_21 ways_22 joined_23 v14 (mc9 + 51) (ms9 + 398) (by omega) (by omega) h k0
                    · have h := h.2 c9
                      refine x_aload_n (pc := 311) K dL_law_311 1 rfl rfl ?_
                      refine x_aload_n (pc := 312) K dL_law_312 2 rfl rfl ?_
                      refine x_gcallSz (pc := 313) (n := 2) K hE hN (by decide) (c_L_tints l D cI cJ cZ cA hst V a_nb land_8 there_9 near_10 worn_28 trial_29 fits_21 ways_22 joined_23 v14 _ h) rfl rfl gL_law_L_tints rfl (by decide +kernel) ⟨Nat.le_of_ble_eq_true rfl, Nat.le_of_ble_eq_true rfl⟩ rfl (av := [.ref (V 0), .ref a_nb]) rfl (Nat.le_of_ble_eq_true rfl) [0, 1, 2, 3, 4, 5, 6, 7, 8, 9, 10, 11, 12, 13, 14, 15, 16, 17, 18] [] (wr := []) rfl rfl rfl rfl (by decide) dL_law_313 ⟨(by show _ ≤ 600086; omega), (by show _ ≤ 7301442; omega)⟩ (fun r32 worn_31 h => ?_)
                      refine x_wsub (ws' := ((wX0J cI cJ cZ cA V land_8 there_9 near_10 worn_31 trial_29 fits_21 ways_22 joined_23) ++ [(a_nb, .inl (cI, 10, .inl v14))])) [0, 1, 2, 3, 4, 5, 6, 7, 8, 9, 10, 11, 12, 13, 14, 15, 16, 17, 18] rfl rfl ?_
                      refine x_if_eq (pc := 316) K dL_law_316 (tgt := 349) (by decide) (fun c9 => ?_) (fun c9 => ?_)
                      · have h := h.1 c9
                        refine x_keep [true, true, true, true, false, false] rfl ?_
                        refine x_iconst (v := (0)) (pc := 349) K dL_law_349 (by decide) ?_
                        refine x_istore_n (lv' := [(0, .ref b), (1, .ref (V 0)), (2, .ref a_nb), (3, .int (0 : Int32)), (4, .int x4)]) (pc := 350) K dL_law_350 rfl (by decide) rfl ?_
                        refine x_iinc (v := x4 + (1 : Int32)) (lv' := [(0, .ref b), (1, .ref (V 0)), (2, .ref a_nb), (3, .int (0 : Int32)), (4, .int (x4 + (1 : Int32)))]) (pc := 351) K dL_law_351 (k := 4) rfl rfl (by decide) rfl ?_
                        refine x_goto (pc := 354) K dL_law_354 (tgt := 72) (by decide) ?_
                        exact ih (0 : Int32) (x4 + (1 : Int32)) land_8 there_9 near_10 worn_31 trial_29 fits_21 ways_22 joined_23 v14 (mc9 + 56) (ms9 + 428) (by omega) (by omega) h k0
                      · have h := h.2 c9
                        refine x_aload_n (pc := 319) K dL_law_319 1 rfl rfl ?_
                        refine x_iload (pc := 320) K dL_law_320 5 rfl ?_
                        refine x_iconst (v := (5)) (pc := 322) K dL_law_322 (by decide) ?_
                        refine x_ishr (pc := 323) K dL_law_323 ?_
                        refine x_bipush (v := (10)) (pc := 324) K dL_law_324 (by decide) ?_
                        refine x_pcallSi (pc := 326) (n := 2) K (c_L_low l D cI cJ cZ cA (r7 >>> ((5 : Int32) &&& 31)) (10 : Int32) _ h) rfl rfl gL_law_L_low rfl (by decide +kernel) ⟨Nat.le_of_ble_eq_true rfl, Nat.le_of_ble_eq_true rfl⟩ rfl (av := [.int (r7 >>> ((5 : Int32) &&& 31)), .int (10 : Int32)]) rfl (Nat.le_of_ble_eq_true rfl) dL_law_326 ⟨(by show _ ≤ 600086; omega), (by show _ ≤ 7301442; omega)⟩ (fun r33 u9 h => ?_)
                        refine x_iconst (v := (1)) (pc := 329) K dL_law_329 (by decide) ?_
                        refine x_iload (pc := 330) K dL_law_330 4 rfl ?_
                        refine x_iconst (v := (5)) (pc := 332) K dL_law_332 (by decide) ?_
                        refine x_ishr (pc := 333) K dL_law_333 ?_
                        refine x_iconst (v := (4)) (pc := 334) K dL_law_334 (by decide) ?_
                        refine x_pcallSi (pc := 335) (n := 2) K (c_L_low l D cI cJ cZ cA (r6 >>> ((5 : Int32) &&& 31)) (4 : Int32) _ h) rfl rfl gL_law_L_low rfl (by decide +kernel) ⟨Nat.le_of_ble_eq_true rfl, Nat.le_of_ble_eq_true rfl⟩ rfl (av := [.int (r6 >>> ((5 : Int32) &&& 31)), .int (4 : Int32)]) rfl (Nat.le_of_ble_eq_true rfl) dL_law_335 ⟨(by show _ ≤ 600086; omega), (by show _ ≤ 7301442; omega)⟩ (fun r34 u9 h => ?_)
                        refine x_iadd (pc := 338) K dL_law_338 ?_
                        refine x_gcallSz (pc := 339) (n := 3) K hE hN (by decide) (c_L_chains l D cI cJ cZ cA hst V r33 ((1 : Int32) + r34) land_8 there_9 near_10 worn_31 trial_29 fits_21 ways_22 joined_23 _ h) rfl rfl gL_law_L_chains rfl (by decide +kernel) ⟨Nat.le_of_ble_eq_true rfl, Nat.le_of_ble_eq_true rfl⟩ rfl (av := [.ref (V 0), .int r33, .int ((1 : Int32) + r34)]) rfl (Nat.le_of_ble_eq_true rfl) [0, 1, 2, 3, 4, 5, 6, 7, 8, 9, 10, 11, 12, 13, 14, 15, 16, 17] [18] (wr := [(a_nb, .inl (cI, 10, .inl v14))]) rfl rfl rfl rfl (by decide) dL_law_339 ⟨(by show _ ≤ 600086; omega), (by show _ ≤ 7301442; omega)⟩ (fun r36 worn_35 h => ?_)
                        refine x_wsub (ws' := ((wX0J cI cJ cZ cA V land_8 there_9 near_10 worn_35 trial_29 fits_21 ways_22 joined_23) ++ [(a_nb, .inl (cI, 10, .inl v14))])) [1, 2, 3, 4, 5, 6, 7, 8, 9, 10, 11, 12, 13, 14, 15, 16, 17, 18, 0] rfl rfl ?_
                        refine x_if_eq (pc := 342) K dL_law_342 (tgt := 349) (by decide) (fun c9 => ?_) (fun c9 => ?_)
                        · have h := h.1 c9
                          refine x_keep [true, true, true, true, false, false] rfl ?_
                          refine x_iconst (v := (0)) (pc := 349) K dL_law_349 (by decide) ?_
                          refine x_istore_n (lv' := [(0, .ref b), (1, .ref (V 0)), (2, .ref a_nb), (3, .int (0 : Int32)), (4, .int x4)]) (pc := 350) K dL_law_350 rfl (by decide) rfl ?_
                          refine x_iinc (v := x4 + (1 : Int32)) (lv' := [(0, .ref b), (1, .ref (V 0)), (2, .ref a_nb), (3, .int (0 : Int32)), (4, .int (x4 + (1 : Int32)))]) (pc := 351) K dL_law_351 (k := 4) rfl rfl (by decide) rfl ?_
                          refine x_goto (pc := 354) K dL_law_354 (tgt := 72) (by decide) ?_
                          exact ih (0 : Int32) (x4 + (1 : Int32)) land_8 there_9 near_10 worn_35 trial_29 fits_21 ways_22 joined_23 v14 (mc9 + 71) (ms9 + 518) (by omega) (by omega) h k0
                        · have h := h.2 c9
                          refine x_keep [true, true, true, true, false, false] rfl ?_
                          refine x_iconst (v := (1)) (pc := 345) K dL_law_345 (by decide) ?_
                          refine x_goto (pc := 346) K dL_law_346 (tgt := 350) (by decide) ?_
                          refine x_istore_n (lv' := [(0, .ref b), (1, .ref (V 0)), (2, .ref a_nb), (3, .int (1 : Int32)), (4, .int x4)]) (pc := 350) K dL_law_350 rfl (by decide) rfl ?_
                          refine x_iinc (v := x4 + (1 : Int32)) (lv' := [(0, .ref b), (1, .ref (V 0)), (2, .ref a_nb), (3, .int (1 : Int32)), (4, .int (x4 + (1 : Int32)))]) (pc := 351) K dL_law_351 (k := 4) rfl rfl (by decide) rfl ?_
                          refine x_goto (pc := 354) K dL_law_354 (tgt := 72) (by decide) ?_
                          exact ih (1 : Int32) (x4 + (1 : Int32)) land_8 there_9 near_10 worn_35 trial_29 fits_21 ways_22 joined_23 v14 (mc9 + 71) (ms9 + 518) (by omega) (by omega) h k0
                  refine x_if_ne (pc := 297) K dL_law_297 (tgt := 304) (by decide) (fun c9 => ?_) (fun c9 => ?_)
                  · have h := h.1 c9
                    refine x_iconst (v := (0)) (pc := 304) K dL_law_304 (by decide) ?_
                    exact kJ26 (0 : Int32) h
                  · have h := h.2 c9
                    refine x_iconst (v := (1)) (pc := 300) K dL_law_300 (by decide) ?_
                    refine x_goto (pc := 301) K dL_law_301 (tgt := 305) (by decide) ?_
                    exact kJ26 (1 : Int32) h
          obtain ⟨J37, hJ37, h⟩ := xj1_o h
          have kJ37 : ∀ (v38 : Nat → Int32), J37 v38 → xw X (mc9 + 49) (ms9 + 386) 264 [(0, .ref b), (1, .ref (V 0)), (2, .ref a_nb), (4, .int x4), (5, .int r6), (6, .int r7)] [] ((wX0J cI cJ cZ cA V land_8 there_9 near_10 v38 trial fits ways joined) ++ [(a_nb, .inl (cI, 10, .inl v14))]) := by
            intro v38 hj
            have h := hJ37 v38 hj
            refine x_iconst (v := (0)) (pc := 264) K dL_law_264 (by decide) ?_
            exact kJ17 (0 : Int32) v38 h
          refine x_if_eq (pc := 164) K dL_law_164 (tgt := 264) (by decide) (fun c9 => ?_) (fun c9 => ?_)
          · have h := h.1 c9
            refine x_widen (k := (mc9 + 49)) (n := (ms9 + 386)) (by omega) (by omega) ?_
            refine x_keep [true, true, true, false, true, true, true, false] rfl ?_
            exact kJ37 worn h
          · have h := h.2 c9
            refine x_keep [true, true, true, false, true, true, true, true] rfl ?_
            refine x_aload_n (pc := 167) K dL_law_167 1 rfl rfl ?_
            refine x_iload (pc := 168) K dL_law_168 4 rfl ?_
            refine x_bipush (v := (10)) (pc := 170) K dL_law_170 (by decide) ?_
            refine x_ishr (pc := 172) K dL_law_172 ?_
            refine x_bipush (v := (10)) (pc := 173) K dL_law_173 (by decide) ?_
            refine x_pcallSi (pc := 175) (n := 2) K (c_L_low l D cI cJ cZ cA (r6 >>> ((10 : Int32) &&& 31)) (10 : Int32) _ h) rfl rfl gL_law_L_low rfl (by decide +kernel) ⟨Nat.le_of_ble_eq_true rfl, Nat.le_of_ble_eq_true rfl⟩ rfl (av := [.int (r6 >>> ((10 : Int32) &&& 31)), .int (10 : Int32)]) rfl (Nat.le_of_ble_eq_true rfl) dL_law_175 ⟨(by show _ ≤ 600086; omega), (by show _ ≤ 7301442; omega)⟩ (fun r39 u9 h => ?_)
            refine x_iload (pc := 178) K dL_law_178 5 rfl ?_
            refine x_bipush (v := (13)) (pc := 180) K dL_law_180 (by decide) ?_
            refine x_ishr (pc := 182) K dL_law_182 ?_
            refine x_bipush (v := (11)) (pc := 183) K dL_law_183 (by decide) ?_
            refine x_pcallSi (pc := 185) (n := 2) K (c_L_low l D cI cJ cZ cA (r7 >>> ((13 : Int32) &&& 31)) (11 : Int32) _ h) rfl rfl gL_law_L_low rfl (by decide +kernel) ⟨Nat.le_of_ble_eq_true rfl, Nat.le_of_ble_eq_true rfl⟩ rfl (av := [.int (r7 >>> ((13 : Int32) &&& 31)), .int (11 : Int32)]) rfl (Nat.le_of_ble_eq_true rfl) dL_law_185 ⟨(by show _ ≤ 600086; omega), (by show _ ≤ 7301442; omega)⟩ (fun r40 u9 h => ?_)
            refine x_hcallSi (pc := 188) (n := 3) K hE hN (by decide) (c_L_tint l D cI cJ cZ cA hst V r39 r40 land_8 there_9 near_10 worn trial fits ways joined _ h) rfl rfl gL_law_L_tint rfl (by decide +kernel) ⟨Nat.le_of_ble_eq_true rfl, Nat.le_of_ble_eq_true rfl⟩ rfl (av := [.ref (V 0), .int r39, .int r40]) rfl (Nat.le_of_ble_eq_true rfl) [0, 1, 2, 3, 4, 5, 6, 7, 8, 9, 10, 11, 12, 13, 14, 15, 16, 17] [18] (wr := [(a_nb, .inl (cI, 10, .inl v14))]) rfl rfl rfl rfl (by decide) dL_law_188 ⟨(by show _ ≤ 600086; omega), (by show _ ≤ 7301442; omega)⟩ (fun r42 worn_41 h => ?_)
            refine x_wsub (ws' := ((wX0J cI cJ cZ cA V land_8 there_9 near_10 worn_41 trial fits ways joined) ++ [(a_nb, .inl (cI, 10, .inl v14))])) [1, 2, 3, 4, 5, 6, 7, 8, 9, 10, 11, 12, 13, 14, 15, 16, 17, 18, 0] rfl rfl ?_
            refine x_iload (pc := 191) K dL_law_191 6 rfl ?_
            refine x_icmp_ne (pc := 193) K dL_law_193 (tgt := 264) (by decide) (fun c9 => ?_) (fun c9 => ?_)
            · have h := h.1 c9
              refine x_widen (k := (mc9 + 49)) (n := (ms9 + 386)) (by omega) (by omega) ?_
              refine x_keep [true, true, true, true, true, true, false] rfl ?_
              exact kJ37 worn_41 h
            · have h := h.2 c9
              refine x_keep [true, true, true, true, true, true, false] rfl ?_
              refine x_aload_n (pc := 196) K dL_law_196 1 rfl rfl ?_
              refine x_iload (pc := 197) K dL_law_197 4 rfl ?_
              refine x_bipush (v := (10)) (pc := 199) K dL_law_199 (by decide) ?_
              refine x_ishr (pc := 201) K dL_law_201 ?_
              refine x_bipush (v := (10)) (pc := 202) K dL_law_202 (by decide) ?_
              refine x_pcallSi (pc := 204) (n := 2) K (c_L_low l D cI cJ cZ cA (r6 >>> ((10 : Int32) &&& 31)) (10 : Int32) _ h) rfl rfl gL_law_L_low rfl (by decide +kernel) ⟨Nat.le_of_ble_eq_true rfl, Nat.le_of_ble_eq_true rfl⟩ rfl (av := [.int (r6 >>> ((10 : Int32) &&& 31)), .int (10 : Int32)]) rfl (Nat.le_of_ble_eq_true rfl) dL_law_204 ⟨(by show _ ≤ 600086; omega), (by show _ ≤ 7301442; omega)⟩ (fun r43 u9 h => ?_)
              refine x_wcallSi (pc := 207) (n := 2) K (c0_L_tintOf l D cI cJ cZ cA V r43 land_8 there_9 near_10 worn_41 trial fits ways joined _ h) rfl rfl gL_law_L_tintOf rfl (by decide +kernel) ⟨Nat.le_of_ble_eq_true rfl, Nat.le_of_ble_eq_true rfl⟩ rfl (av := [.ref (V 0), .int r43]) rfl (Nat.le_of_ble_eq_true rfl) [0, 1, 2, 3, 4, 5, 6, 7, 8, 9, 10, 11, 12, 13, 14, 15, 16, 17] [18] (wr := [(a_nb, .inl (cI, 10, .inl v14))]) rfl rfl rfl rfl (by decide) dL_law_207 ⟨(by show _ ≤ 600086; omega), (by show _ ≤ 7301442; omega)⟩ (fun r44 u9 h => ?_)
              refine x_wsub (ws' := ((wX0J cI cJ cZ cA V land_8 there_9 near_10 worn_41 trial fits ways joined) ++ [(a_nb, .inl (cI, 10, .inl v14))])) [1, 2, 3, 4, 5, 6, 7, 8, 9, 10, 11, 12, 13, 14, 15, 16, 17, 18, 0] rfl rfl ?_
              refine x_iload (pc := 210) K dL_law_210 5 rfl ?_
              refine x_bipush (v := (13)) (pc := 212) K dL_law_212 (by decide) ?_
              refine x_ishr (pc := 214) K dL_law_214 ?_
              refine x_bipush (v := (11)) (pc := 215) K dL_law_215 (by decide) ?_
              refine x_pcallSi (pc := 217) (n := 2) K (c_L_low l D cI cJ cZ cA (r7 >>> ((13 : Int32) &&& 31)) (11 : Int32) _ h) rfl rfl gL_law_L_low rfl (by decide +kernel) ⟨Nat.le_of_ble_eq_true rfl, Nat.le_of_ble_eq_true rfl⟩ rfl (av := [.int (r7 >>> ((13 : Int32) &&& 31)), .int (11 : Int32)]) rfl (Nat.le_of_ble_eq_true rfl) dL_law_217 ⟨(by show _ ≤ 600086; omega), (by show _ ≤ 7301442; omega)⟩ (fun r45 u9 h => ?_)
              refine x_icmp_ne (pc := 220) K dL_law_220 (tgt := 264) (by decide) (fun c9 => ?_) (fun c9 => ?_)
              · have h := h.1 c9
                refine x_widen (k := (mc9 + 49)) (n := (ms9 + 386)) (by omega) (by omega) ?_
                exact kJ37 worn_41 h
              · have h := h.2 c9
                refine x_aload_n (pc := 223) K dL_law_223 1 rfl rfl ?_
                refine x_aload_n (pc := 224) K dL_law_224 2 rfl rfl ?_
                refine x_gcallSz (pc := 225) (n := 2) K hE hN (by decide) (c_L_tints l D cI cJ cZ cA hst V a_nb land_8 there_9 near_10 worn_41 trial fits ways joined v14 _ h) rfl rfl gL_law_L_tints rfl (by decide +kernel) ⟨Nat.le_of_ble_eq_true rfl, Nat.le_of_ble_eq_true rfl⟩ rfl (av := [.ref (V 0), .ref a_nb]) rfl (Nat.le_of_ble_eq_true rfl) [0, 1, 2, 3, 4, 5, 6, 7, 8, 9, 10, 11, 12, 13, 14, 15, 16, 17, 18] [] (wr := []) rfl rfl rfl rfl (by decide) dL_law_225 ⟨(by show _ ≤ 600086; omega), (by show _ ≤ 7301442; omega)⟩ (fun r47 worn_46 h => ?_)
                refine x_wsub (ws' := ((wX0J cI cJ cZ cA V land_8 there_9 near_10 worn_46 trial fits ways joined) ++ [(a_nb, .inl (cI, 10, .inl v14))])) [0, 1, 2, 3, 4, 5, 6, 7, 8, 9, 10, 11, 12, 13, 14, 15, 16, 17, 18] rfl rfl ?_
                refine x_if_eq (pc := 228) K dL_law_228 (tgt := 264) (by decide) (fun c9 => ?_) (fun c9 => ?_)
                · have h := h.1 c9
                  refine x_widen (k := (mc9 + 49)) (n := (ms9 + 386)) (by omega) (by omega) ?_
                  exact kJ37 worn_46 h
                · have h := h.2 c9
                  refine x_aload_n (pc := 231) K dL_law_231 1 rfl rfl ?_
                  refine x_iload (pc := 232) K dL_law_232 4 rfl ?_
                  refine x_bipush (v := (14)) (pc := 234) K dL_law_234 (by decide) ?_
                  refine x_ishr (pc := 236) K dL_law_236 ?_
                  refine x_bipush (v := (10)) (pc := 237) K dL_law_237 (by decide) ?_
                  refine x_pcallSi (pc := 239) (n := 2) K (c_L_low l D cI cJ cZ cA (r6 >>> ((14 : Int32) &&& 31)) (10 : Int32) _ h) rfl rfl gL_law_L_low rfl (by decide +kernel) ⟨Nat.le_of_ble_eq_true rfl, Nat.le_of_ble_eq_true rfl⟩ rfl (av := [.int (r6 >>> ((14 : Int32) &&& 31)), .int (10 : Int32)]) rfl (Nat.le_of_ble_eq_true rfl) dL_law_239 ⟨(by show _ ≤ 600086; omega), (by show _ ≤ 7301442; omega)⟩ (fun r48 u9 h => ?_)
                  refine x_iconst (v := (1)) (pc := 242) K dL_law_242 (by decide) ?_
                  refine x_iload (pc := 243) K dL_law_243 5 rfl ?_
                  refine x_bipush (v := (17)) (pc := 245) K dL_law_245 (by decide) ?_
                  refine x_ishr (pc := 247) K dL_law_247 ?_
                  refine x_bipush (v := (10)) (pc := 248) K dL_law_248 (by decide) ?_
                  refine x_pcallSi (pc := 250) (n := 2) K (c_L_low l D cI cJ cZ cA (r7 >>> ((17 : Int32) &&& 31)) (10 : Int32) _ h) rfl rfl gL_law_L_low rfl (by decide +kernel) ⟨Nat.le_of_ble_eq_true rfl, Nat.le_of_ble_eq_true rfl⟩ rfl (av := [.int (r7 >>> ((17 : Int32) &&& 31)), .int (10 : Int32)]) rfl (Nat.le_of_ble_eq_true rfl) dL_law_250 ⟨(by show _ ≤ 600086; omega), (by show _ ≤ 7301442; omega)⟩ (fun r49 u9 h => ?_)
                  refine x_iadd (pc := 253) K dL_law_253 ?_
                  refine x_gcallSz (pc := 254) (n := 3) K hE hN (by decide) (c_L_chains l D cI cJ cZ cA hst V r48 ((1 : Int32) + r49) land_8 there_9 near_10 worn_46 trial fits ways joined _ h) rfl rfl gL_law_L_chains rfl (by decide +kernel) ⟨Nat.le_of_ble_eq_true rfl, Nat.le_of_ble_eq_true rfl⟩ rfl (av := [.ref (V 0), .int r48, .int ((1 : Int32) + r49)]) rfl (Nat.le_of_ble_eq_true rfl) [0, 1, 2, 3, 4, 5, 6, 7, 8, 9, 10, 11, 12, 13, 14, 15, 16, 17] [18] (wr := [(a_nb, .inl (cI, 10, .inl v14))]) rfl rfl rfl rfl (by decide) dL_law_254 ⟨(by show _ ≤ 600086; omega), (by show _ ≤ 7301442; omega)⟩ (fun r51 worn_50 h => ?_)
                  refine x_wsub (ws' := ((wX0J cI cJ cZ cA V land_8 there_9 near_10 worn_50 trial fits ways joined) ++ [(a_nb, .inl (cI, 10, .inl v14))])) [1, 2, 3, 4, 5, 6, 7, 8, 9, 10, 11, 12, 13, 14, 15, 16, 17, 18, 0] rfl rfl ?_
                  refine x_if_eq (pc := 257) K dL_law_257 (tgt := 264) (by decide) (fun c9 => ?_) (fun c9 => ?_)
                  · have h := h.1 c9
                    exact kJ37 worn_50 h
                  · have h := h.2 c9
                    refine x_iconst (v := (1)) (pc := 260) K dL_law_260 (by decide) ?_
                    refine x_goto (pc := 261) K dL_law_261 (tgt := 265) (by decide) ?_
                    exact kJ17 (1 : Int32) worn_50 h
        obtain ⟨J52, hJ52, h⟩ := xj1_o h
        have kJ52 : ∀ (v53 : Nat → Int32), J52 v53 → xw X (mc9 + 27) (ms9 + 254) 145 [(0, .ref b), (1, .ref (V 0)), (2, .ref a_nb), (4, .int x4), (5, .int r6), (6, .int r7)] [] ((wX0J cI cJ cZ cA V land_8 there_9 near_10 worn trial fits ways joined) ++ [(a_nb, .inl (cI, 10, .inl v53))]) := by
          intro v53 hj
          have h := hJ52 v53 hj
          refine x_iconst (v := (0)) (pc := 145) K dL_law_145 (by decide) ?_
          exact kJ12 (0 : Int32) v53 h
        refine x_if_eq (pc := 113) K dL_law_113 (tgt := 145) (by decide) (fun c9 => ?_) (fun c9 => ?_)
        · have h := h.1 c9
          refine x_widen (k := (mc9 + 27)) (n := (ms9 + 254)) (by omega) (by omega) ?_
          exact kJ52 nb h
        · have h := h.2 c9
          refine x_aload_n (pc := 116) K dL_law_116 1 rfl rfl ?_
          refine x_aload_n (pc := 117) K dL_law_117 2 rfl rfl ?_
          refine x_gcallSz (pc := 118) (n := 2) K hE hN (by decide) (c_L_looks l D cI cJ cZ cA hst V a_nb land_8 there_9 near_10 worn trial fits ways joined nb _ h) rfl rfl gL_law_L_looks rfl (by decide +kernel) ⟨Nat.le_of_ble_eq_true rfl, Nat.le_of_ble_eq_true rfl⟩ rfl (av := [.ref (V 0), .ref a_nb]) rfl (Nat.le_of_ble_eq_true rfl) [0, 1, 2, 3, 4, 5, 6, 7, 8, 9, 10, 11, 12, 13, 14, 15, 16, 17, 18] [] (wr := []) rfl rfl rfl rfl (by decide) dL_law_118 ⟨(by show _ ≤ 600086; omega), (by show _ ≤ 7301442; omega)⟩ (fun r55 nb_54 h => ?_)
          refine x_wsub (ws' := ((wX0J cI cJ cZ cA V land_8 there_9 near_10 worn trial fits ways joined) ++ [(a_nb, .inl (cI, 10, .inl nb_54))])) [0, 1, 2, 3, 4, 5, 6, 7, 8, 9, 10, 11, 12, 13, 14, 15, 16, 17, 18] rfl rfl ?_
          refine x_if_eq (pc := 121) K dL_law_121 (tgt := 145) (by decide) (fun c9 => ?_) (fun c9 => ?_)
          · have h := h.1 c9
            exact kJ52 nb_54 h
          · have h := h.2 c9
            refine x_aload_n (pc := 124) K dL_law_124 1 rfl rfl ?_
            refine x_iload (pc := 125) K dL_law_125 5 rfl ?_
            refine x_bipush (v := (12)) (pc := 127) K dL_law_127 (by decide) ?_
            refine x_ishr (pc := 129) K dL_law_129 ?_
            refine x_bipush (v := (10)) (pc := 130) K dL_law_130 (by decide) ?_
            refine x_pcallSi (pc := 132) (n := 2) K (c_L_low l D cI cJ cZ cA (r7 >>> ((12 : Int32) &&& 31)) (10 : Int32) _ h) rfl rfl gL_law_L_low rfl (by decide +kernel) ⟨Nat.le_of_ble_eq_true rfl, Nat.le_of_ble_eq_true rfl⟩ rfl (av := [.int (r7 >>> ((12 : Int32) &&& 31)), .int (10 : Int32)]) rfl (Nat.le_of_ble_eq_true rfl) dL_law_132 ⟨(by show _ ≤ 600086; omega), (by show _ ≤ 7301442; omega)⟩ (fun r56 u9 h => ?_)
            refine x_callSz (pc := 135) (n := 2) K (c_L_encloses l D cI cJ cZ cA V r56 land_8 there_9 near_10 worn trial fits ways joined _ h) rfl rfl gL_law_L_encloses rfl (by decide +kernel) ⟨Nat.le_of_ble_eq_true rfl, Nat.le_of_ble_eq_true rfl⟩ rfl (av := [.ref (V 0), .int r56]) rfl (Nat.le_of_ble_eq_true rfl) [0, 1, 2, 3, 4, 5, 6, 7, 8, 9, 10, 11, 12, 13, 14, 15, 16, 17] [18] (wr := [(a_nb, .inl (cI, 10, .inl nb_54))]) rfl rfl rfl rfl (by decide) dL_law_135 ⟨(by show _ ≤ 600086; omega), (by show _ ≤ 7301442; omega)⟩ (fun r57 u9 h => ?_)
            refine x_wsub (ws' := ((wX0J cI cJ cZ cA V land_8 there_9 near_10 worn trial fits ways joined) ++ [(a_nb, .inl (cI, 10, .inl nb_54))])) [1, 2, 3, 4, 5, 6, 7, 8, 9, 10, 11, 12, 13, 14, 15, 16, 17, 18, 0] rfl rfl ?_
            refine x_if_eq (pc := 138) K dL_law_138 (tgt := 145) (by decide) (fun c9 => ?_) (fun c9 => ?_)
            · have h := h.1 c9
              exact kJ52 nb_54 h
            · have h := h.2 c9
              refine x_iconst (v := (1)) (pc := 141) K dL_law_141 (by decide) ?_
              refine x_goto (pc := 142) K dL_law_142 (tgt := 146) (by decide) ?_
              exact kJ12 (1 : Int32) nb_54 h
set_option maxHeartbeats 4000000 in
set_option maxRecDepth 100000 in
theorem w_L_law {X : xC} {l : Launch} {D : va_G} {cI cJ cZ cA : ClassId} {b L : Nat} {xs : Nat → Int32} (K : xk X l room_1 D vwCl (xtys cI cJ cZ cA) cL_law RL wsL_law 8) (hE : xEx X RX0 [(61, "the block ends before it begins"), (180, "there is no such row or column"), (183, "there is no such country"), (185, "neither a country nor sea"), (187, "there is no such tint"), (189, "there are not so many tints"), (193, "the country is not there or has no tint")]) (hN : xno X) (hst : l.stackTraces = false) (hsc : xsc X b L xs) (hao : xao X) (hend : xend X) (h : q_L_law L xs) : xw X 0 0 0 [(0, .ref b)] [] [] := by
  unfold q_L_law at h
  refine x_new (pc := 0) (ci := 0) (fs := [.null, .int 0, .null, .null, .null, .null, .null, .null]) K inlX0 tyX0 tyX0_ok k_law_new0 k_law_ins0 k_law_ini0 rfl (fun j hj => by rcases (show j = 0 ∨ j = 1 ∨ j = 2 ∨ j = 3 ∨ j = 4 ∨ j = 5 ∨ j = 6 ∨ j = 7 by omega) with rfl | rfl | rfl | rfl | rfl | rfl | rfl | rfl <;> rfl) (Nat.le_of_ble_eq_true rfl) (Nat.le_of_ble_eq_true rfl) dL_law_0 (fun q => ?_)
  refine x_dup (pc := 3) K dL_law_3 rfl ?_
  refine x_ccallI (pc := 4) K hao (c_X0_init l D cI cJ cZ cA q) rfl rfl gL_law_X0_init rfl k_law_ini0 k_law_l0 k_law_i0 rfl (by decide +kernel) ⟨Nat.le_of_ble_eq_true rfl, Nat.le_of_ble_eq_true rfl⟩ (Nat.le_of_ble_eq_true rfl) [0] [] (wr := []) rfl rfl rfl rfl (by decide) dL_law_4 ⟨Nat.le_of_ble_eq_true rfl, Nat.le_of_ble_eq_true rfl⟩ (fun V hV => ?_)
  subst hV
  refine x_ws (ws' := (wX0J cI cJ cZ cA V (fun _ => 0) 0 (fun _ => 0) (fun _ => 0) (fun _ => 0) (fun _ => 0) (fun _ => 0) (fun _ _ => 0))) rfl ?_
  refine x_astore_n (lv' := [(0, .ref b), (1, .ref (V 0))]) (pc := 7) K dL_law_7 rfl (by decide) rfl ?_
  refine x_bipush (v := (10)) (pc := 8) K dL_law_8 (by decide) ?_
  refine x_newa (pc := 10) (atype := .int) (ty := .int) (a0 := (10, .inl (fun _ => 0))) (N := 10) K 0 rfl (fun _ _ h => h) kL_law_0 rfl (fun c => (vp_cell_i c 10 (fun _ => 0))) (by decide) (by decide) (by decide) (Nat.le_of_ble_eq_true rfl) (Nat.le_of_ble_eq_true rfl) dL_law_10 (fun a_nb => ?_)
  refine x_ws (ws' := ((wX0J cI cJ cZ cA V (fun _ => 0) 0 (fun _ => 0) (fun _ => 0) (fun _ => 0) (fun _ => 0) (fun _ => 0) (fun _ _ => 0)) ++ [(a_nb, .inl (cI, 10, .inl (fun _ => 0)))])) rfl ?_
  refine x_astore_n (lv' := [(0, .ref b), (1, .ref (V 0)), (2, .ref a_nb)]) (pc := 12) K dL_law_12 rfl (by decide) rfl ?_
  refine x_aload_n (pc := 13) K dL_law_13 1 rfl rfl ?_
  refine x_callVi (pc := 14) (n := 0) K (c_X0_countries l D cI cJ cZ cA V (fun _ => 0) 0 (fun _ => 0) (fun _ => 0) (fun _ => 0) (fun _ => 0) (fun _ => 0) _ h) rfl rfl gL_law_X0_countries rfl (by decide +kernel) ⟨Nat.le_of_ble_eq_true rfl, Nat.le_of_ble_eq_true rfl⟩ rfl (av := []) (b := V 0) (ci := 0) (q0 := 0) rfl rfl rfl (Nat.le_of_ble_eq_true rfl) [0, 1, 2, 3, 4, 5, 6] [7, 8, 9, 10, 11, 12, 13, 14, 15, 16, 17, 18] (wr := (wJ cI cA (V 7) (fun k => V (k + 8)) (fun _ _ => 0) ++ [(a_nb, .inl (cI, 10, .inl (fun _ => 0)))])) rfl rfl rfl rfl (by decide) dL_law_14 ⟨Nat.le_of_ble_eq_true rfl, Nat.le_of_ble_eq_true rfl⟩ (fun r1 u9 h => ?_)
  refine x_wsub (ws' := ((wX0J cI cJ cZ cA V (fun _ => 0) 0 (fun _ => 0) (fun _ => 0) (fun _ => 0) (fun _ => 0) (fun _ => 0) (fun _ _ => 0)) ++ [(a_nb, .inl (cI, 10, .inl (fun _ => 0)))])) [12, 13, 14, 15, 16, 17, 18, 0, 1, 2, 3, 4, 5, 6, 7, 8, 9, 10, 11] rfl rfl ?_
  obtain ⟨J2, hJ2, h⟩ := xj3_o h
  have kJ2 : ∀ (v3 : Int32) (v4 : Nat → Int32) (v5 : Nat → Int32), J2 v3 v4 v5 → xw X 20 2222 68 [(0, .ref b), (1, .ref (V 0)), (2, .ref a_nb)] [.int v3] ((wX0J cI cJ cZ cA V (fun _ => 0) 0 (fun _ => 0) (fun _ => 0) v4 v5 (fun _ => 0) (fun _ _ => 0)) ++ [(a_nb, .inl (cI, 10, .inl (fun _ => 0)))]) := by
    intro v3 v4 v5 hj
    have h := hJ2 v3 v4 v5 hj
    refine x_istore_n (lv' := [(0, .ref b), (1, .ref (V 0)), (2, .ref a_nb), (3, .int v3)]) (pc := 68) K dL_law_68 rfl (by decide) rfl ?_
    refine x_iconst (v := (0)) (pc := 69) K dL_law_69 (by decide) ?_
    refine x_istore (lv' := [(0, .ref b), (1, .ref (V 0)), (2, .ref a_nb), (3, .int v3), (4, .int (0 : Int32))]) (pc := 70) K dL_law_70 (by decide) rfl ?_
    obtain ⟨n58, b9, h⟩ := h
    refine w_L_law_L72 K hE hN hst hsc _ n58 v3 (0 : Int32) (fun _ => 0) 0 (fun _ => 0) (fun _ => 0) v4 v5 (fun _ => 0) (fun _ _ => 0) (fun _ => 0) 20 2222 (by omega) (by omega) h (fun v59 v60 v61 v62 v63 v64 v65 v66 v67 v68 h => ?_)
    refine x_iload_n (pc := 357) K dL_law_357 0 rfl rfl ?_
    subst h
    exact hend _ _ _ dL_law_358
  obtain ⟨J69, hJ69, h⟩ := xj2_o h
  have kJ69 : ∀ (v70 : Nat → Int32) (v71 : Nat → Int32), J69 v70 v71 → xw X 20 2222 67 [(0, .ref b), (1, .ref (V 0)), (2, .ref a_nb)] [] ((wX0J cI cJ cZ cA V (fun _ => 0) 0 (fun _ => 0) (fun _ => 0) v70 v71 (fun _ => 0) (fun _ _ => 0)) ++ [(a_nb, .inl (cI, 10, .inl (fun _ => 0)))]) := by
    intro v70 v71 hj
    have h := hJ69 v70 v71 hj
    refine x_iconst (v := (0)) (pc := 67) K dL_law_67 (by decide) ?_
    exact kJ2 (0 : Int32) v70 v71 h
  refine x_if_ne (pc := 17) K dL_law_17 (tgt := 67) (by decide) (fun c9 => ?_) (fun c9 => ?_)
  · have h := h.1 c9
    refine x_widen (k := 20) (n := 2222) (by omega) (by omega) ?_
    exact kJ69 (fun _ => 0) (fun _ => 0) h
  · have h := h.2 c9
    refine x_aload_n (pc := 20) K dL_law_20 1 rfl rfl ?_
    refine x_callVz (pc := 21) (n := 0) K (c_X0_isTinted l D cI cJ cZ cA V (fun _ => 0) 0 (fun _ => 0) (fun _ => 0) (fun _ => 0) (fun _ => 0) (fun _ => 0) _ h) rfl rfl gL_law_X0_isTinted rfl (by decide +kernel) ⟨Nat.le_of_ble_eq_true rfl, Nat.le_of_ble_eq_true rfl⟩ rfl (av := []) (b := V 0) (ci := 0) (q0 := 0) rfl rfl rfl (Nat.le_of_ble_eq_true rfl) [0, 1, 2, 3, 4, 5, 6] [7, 8, 9, 10, 11, 12, 13, 14, 15, 16, 17, 18] (wr := (wJ cI cA (V 7) (fun k => V (k + 8)) (fun _ _ => 0) ++ [(a_nb, .inl (cI, 10, .inl (fun _ => 0)))])) rfl rfl rfl rfl (by decide) dL_law_21 ⟨Nat.le_of_ble_eq_true rfl, Nat.le_of_ble_eq_true rfl⟩ (fun r72 u9 h => ?_)
    refine x_wsub (ws' := ((wX0J cI cJ cZ cA V (fun _ => 0) 0 (fun _ => 0) (fun _ => 0) (fun _ => 0) (fun _ => 0) (fun _ => 0) (fun _ _ => 0)) ++ [(a_nb, .inl (cI, 10, .inl (fun _ => 0)))])) [12, 13, 14, 15, 16, 17, 18, 0, 1, 2, 3, 4, 5, 6, 7, 8, 9, 10, 11] rfl rfl ?_
    refine x_if_eq (pc := 24) K dL_law_24 (tgt := 67) (by decide) (fun c9 => ?_) (fun c9 => ?_)
    · have h := h.1 c9
      refine x_widen (k := 20) (n := 2222) (by omega) (by omega) ?_
      exact kJ69 (fun _ => 0) (fun _ => 0) h
    · have h := h.2 c9
      refine x_aload_n (pc := 27) K dL_law_27 1 rfl rfl ?_
      refine x_callVi (pc := 28) (n := 0) K (c_X0_fewestTints l D cI cJ cZ cA V (fun _ => 0) 0 (fun _ => 0) (fun _ => 0) (fun _ => 0) (fun _ => 0) (fun _ => 0) _ h) rfl rfl gL_law_X0_fewestTints rfl (by decide +kernel) ⟨Nat.le_of_ble_eq_true rfl, Nat.le_of_ble_eq_true rfl⟩ rfl (av := []) (b := V 0) (ci := 0) (q0 := 0) rfl rfl rfl (Nat.le_of_ble_eq_true rfl) [0, 1, 2, 3, 4, 5, 6] [7, 8, 9, 10, 11, 12, 13, 14, 15, 16, 17, 18] (wr := (wJ cI cA (V 7) (fun k => V (k + 8)) (fun _ _ => 0) ++ [(a_nb, .inl (cI, 10, .inl (fun _ => 0)))])) rfl rfl rfl rfl (by decide) dL_law_28 ⟨Nat.le_of_ble_eq_true rfl, Nat.le_of_ble_eq_true rfl⟩ (fun r74 trial_73 h => ?_)
      refine x_wsub (ws' := ((wX0J cI cJ cZ cA V (fun _ => 0) 0 (fun _ => 0) (fun _ => 0) trial_73 (fun _ => 0) (fun _ => 0) (fun _ _ => 0)) ++ [(a_nb, .inl (cI, 10, .inl (fun _ => 0)))])) [12, 13, 14, 15, 16, 17, 18, 0, 1, 2, 3, 4, 5, 6, 7, 8, 9, 10, 11] rfl rfl ?_
      refine x_if_ne (pc := 31) K dL_law_31 (tgt := 67) (by decide) (fun c9 => ?_) (fun c9 => ?_)
      · have h := h.1 c9
        refine x_widen (k := 20) (n := 2222) (by omega) (by omega) ?_
        exact kJ69 trial_73 (fun _ => 0) h
      · have h := h.2 c9
        refine x_aload_n (pc := 34) K dL_law_34 1 rfl rfl ?_
        refine x_callVi (pc := 35) (n := 0) K (c_X0_allNeighbours l D cI cJ cZ cA V (fun _ => 0) 0 (fun _ => 0) (fun _ => 0) trial_73 (fun _ => 0) (fun _ => 0) _ h) rfl rfl gL_law_X0_allNeighbours rfl (by decide +kernel) ⟨Nat.le_of_ble_eq_true rfl, Nat.le_of_ble_eq_true rfl⟩ rfl (av := []) (b := V 0) (ci := 0) (q0 := 0) rfl rfl rfl (Nat.le_of_ble_eq_true rfl) [0, 1, 2, 3, 4, 5, 6] [7, 8, 9, 10, 11, 12, 13, 14, 15, 16, 17, 18] (wr := (wJ cI cA (V 7) (fun k => V (k + 8)) (fun _ _ => 0) ++ [(a_nb, .inl (cI, 10, .inl (fun _ => 0)))])) rfl rfl rfl rfl (by decide) dL_law_35 ⟨Nat.le_of_ble_eq_true rfl, Nat.le_of_ble_eq_true rfl⟩ (fun r76 fits_75 h => ?_)
        refine x_wsub (ws' := ((wX0J cI cJ cZ cA V (fun _ => 0) 0 (fun _ => 0) (fun _ => 0) trial_73 fits_75 (fun _ => 0) (fun _ _ => 0)) ++ [(a_nb, .inl (cI, 10, .inl (fun _ => 0)))])) [12, 13, 14, 15, 16, 17, 18, 0, 1, 2, 3, 4, 5, 6, 7, 8, 9, 10, 11] rfl rfl ?_
        refine x_if_ne (pc := 38) K dL_law_38 (tgt := 67) (by decide) (fun c9 => ?_) (fun c9 => ?_)
        · have h := h.1 c9
          refine x_widen (k := 20) (n := 2222) (by omega) (by omega) ?_
          exact kJ69 trial_73 fits_75 h
        · have h := h.2 c9
          refine x_aload_n (pc := 41) K dL_law_41 1 rfl rfl ?_
          refine x_iconst (v := (5)) (pc := 42) K dL_law_42 (by decide) ?_
          refine x_iconst (v := (5)) (pc := 43) K dL_law_43 (by decide) ?_
          refine x_wcallSi (pc := 44) (n := 3) K (c0_L_countryAt l D cI cJ cZ cA V (5 : Int32) (5 : Int32) (fun _ => 0) 0 (fun _ => 0) (fun _ => 0) trial_73 fits_75 (fun _ => 0) (fun _ _ => 0) _ h) rfl rfl gL_law_L_countryAt rfl (by decide +kernel) ⟨Nat.le_of_ble_eq_true rfl, Nat.le_of_ble_eq_true rfl⟩ rfl (av := [.ref (V 0), .int (5 : Int32), .int (5 : Int32)]) rfl (Nat.le_of_ble_eq_true rfl) [0, 1, 2, 3, 4, 5, 6, 7, 8, 9, 10, 11, 12, 13, 14, 15, 16, 17] [18] (wr := [(a_nb, .inl (cI, 10, .inl (fun _ => 0)))]) rfl rfl rfl rfl (by decide) dL_law_44 ⟨Nat.le_of_ble_eq_true rfl, Nat.le_of_ble_eq_true rfl⟩ (fun r77 u9 h => ?_)
          refine x_wsub (ws' := ((wX0J cI cJ cZ cA V (fun _ => 0) 0 (fun _ => 0) (fun _ => 0) trial_73 fits_75 (fun _ => 0) (fun _ _ => 0)) ++ [(a_nb, .inl (cI, 10, .inl (fun _ => 0)))])) [1, 2, 3, 4, 5, 6, 7, 8, 9, 10, 11, 12, 13, 14, 15, 16, 17, 18, 0] rfl rfl ?_
          refine x_iconst (v := (-1)) (pc := 47) K dL_law_47 (by decide) ?_
          refine x_icmp_ne (pc := 48) K dL_law_48 (tgt := 67) (by decide) (fun c9 => ?_) (fun c9 => ?_)
          · have h := h.1 c9
            refine x_widen (k := 20) (n := 2222) (by omega) (by omega) ?_
            exact kJ69 trial_73 fits_75 h
          · have h := h.2 c9
            refine x_aload_n (pc := 51) K dL_law_51 1 rfl rfl ?_
            refine x_iconst (v := (5)) (pc := 52) K dL_law_52 (by decide) ?_
            refine x_bipush (v := (6)) (pc := 53) K dL_law_53 (by decide) ?_
            refine x_hcallSi (pc := 55) (n := 3) K hE hN (by decide) (c_L_countryAt l D cI cJ cZ cA hst V (5 : Int32) (6 : Int32) (fun _ => 0) 0 (fun _ => 0) (fun _ => 0) trial_73 fits_75 (fun _ => 0) (fun _ _ => 0) _ h) rfl rfl gL_law_L_countryAt rfl (by decide +kernel) ⟨Nat.le_of_ble_eq_true rfl, Nat.le_of_ble_eq_true rfl⟩ rfl (av := [.ref (V 0), .int (5 : Int32), .int (6 : Int32)]) rfl (Nat.le_of_ble_eq_true rfl) [0, 1, 2, 3, 4, 5, 6, 7, 8, 9, 10, 11, 12, 13, 14, 15, 16, 17] [18] (wr := [(a_nb, .inl (cI, 10, .inl (fun _ => 0)))]) rfl rfl rfl rfl (by decide) dL_law_55 ⟨Nat.le_of_ble_eq_true rfl, Nat.le_of_ble_eq_true rfl⟩ (fun r78 u9 h => ?_)
            refine x_wsub (ws' := ((wX0J cI cJ cZ cA V (fun _ => 0) 0 (fun _ => 0) (fun _ => 0) trial_73 fits_75 (fun _ => 0) (fun _ _ => 0)) ++ [(a_nb, .inl (cI, 10, .inl (fun _ => 0)))])) [1, 2, 3, 4, 5, 6, 7, 8, 9, 10, 11, 12, 13, 14, 15, 16, 17, 18, 0] rfl rfl ?_
            refine x_ldc (pc := 58) (v := (-1000001)) K kL_law_1 dL_law_58 ?_
            refine x_icmp_ne (pc := 60) K dL_law_60 (tgt := 67) (by decide) (fun c9 => ?_) (fun c9 => ?_)
            · have h := h.1 c9
              exact kJ69 trial_73 fits_75 h
            · have h := h.2 c9
              refine x_iconst (v := (1)) (pc := 63) K dL_law_63 (by decide) ?_
              refine x_goto (pc := 64) K dL_law_64 (tgt := 68) (by decide) ?_
              exact kJ2 (1 : Int32) trial_73 fits_75 h
