set_option maxHeartbeats 4000000 in
set_option maxRecDepth 100000 in
theorem w_L_law_L23 {X : xC} {l : Launch} {D : va_G} {cI cJ cZ cA : ClassId} {V U : Nat → Nat} {ao b L : Nat} {xs : Nat → Int32} (hst : l.stackTraces = false) (K : xk X l room_1 D vwCl (xtys cI cJ cZ cA) cL_law RL wsL_law 8) (hE : xEx X RX0 [(61, "the block ends before it begins"), (180, "there is no such row or column"), (183, "there is no such country"), (185, "neither a country nor sea"), (187, "there is no such tint"), (189, "there are not so many tints"), (193, "the country is not there or has no tint")]) (hN : xno X) (hsc : xsc X b L xs) (hend : xend X) : ∀ (n : Nat) (i : Int32) (land : Nat → Int64) (there : Int32) (near : Nat → Int32) (worn : Nat → Int32) (trial : Nat → Int32) (fits : Nat → Int32) (ways : Nat → Int64) (joined : Nat → Nat → Int32) (mcel : Nat → Int32) (mtint : Nat → Int32) (mcells : Nat → Int64) (mnear : Nat → Int32) (mthere : Int32) (mways : Nat → Int64) (mmore : Nat → Int64) (mthrown : Int32) (out : Nat → Int64) (c9 s9 : Nat), c9 + 4 * n ≤ 601024 → s9 + 24 * n ≤ 7293034 → q_L_law_L23 L xs n i land there near worn trial fits ways joined mcel mtint mcells mnear mthere mways mmore mthrown out → xw X c9 s9 23 [(0, .ref b), (1, .ref (V 0)), (2, .ref (U 0)), (3, .ref ao), (4, .int i)] [] (wLaw cI cJ cZ cA V U land there near worn trial fits ways joined mcel mtint mcells mnear mthere mways mmore mthrown ao out) := by
  intro n
  induction n with
  | zero =>
    intro i land there near worn trial fits ways joined mcel mtint mcells mnear mthere mways mmore mthrown out c9 s9 _ _ h
    rw [q_L_law_L23] at h
    exact h.elim
  | succ n ih =>
    intro i land there near worn trial fits ways joined mcel mtint mcells mnear mthere mways mmore mthrown out c9 s9 hc hs h
    rw [q_L_law_L23] at h
    refine x_iload (pc := 23) K dL_law_23 4 rfl ?_
    refine x_aload_n (pc := 25) K dL_law_25 0 rfl rfl ?_
    refine x_slen (pc := 26) K hsc dL_law_26 ?_
    refine x_bipush (v := 6) (pc := 27) K dL_law_27 (by decide) ?_
    refine x_isub (pc := 29) K dL_law_29 ?_
    refine x_icmp_gt (pc := 30) K dL_law_30 (tgt := 1316) (by decide) (fun e9 => ?_) (fun e9 => ?_)
    · refine x_iconst (v := 1) (pc := 1316) K dL_law_1316 (by decide) ?_
      refine x_widen (k := 601024) (n := 7293034) (by omega) (by omega) ?_
      exact hend _ _ _ dL_law_1317
    · obtain ⟨g9, h⟩ := h.2 e9
      refine x_aload_n (pc := 33) K dL_law_33 0 rfl rfl ?_
      refine x_iload (pc := 34) K dL_law_34 4 rfl ?_
      refine x_sld (pc := 36) K hsc g9 dL_law_36 ?_
      refine x_bipush (v := 31) (pc := 37) K dL_law_37 (by decide) ?_
      refine x_iand (pc := 39) K dL_law_39 ?_
      by_cases e0 : ((xs i.toNatClampNeg) &&& (31 : Int32)) = nI 0
      · refine x_swIn (pc := 40) (hi := 23) (off := 112) (tgt := 152) K 0 e0 (by decide) (by decide) rfl (by decide) dL_law_40 ?_
        exact w_L_case0 hst K hE hN hsc _ ih i land there near worn trial fits ways joined mcel mtint mcells mnear mthere mways mmore mthrown out c9 s9 hc hs (h.1 e0)
      by_cases e1 : ((xs i.toNatClampNeg) &&& (31 : Int32)) = nI 1
      · refine x_swIn (pc := 40) (hi := 23) (off := 192) (tgt := 232) K 1 e1 (by decide) (by decide) rfl (by decide) dL_law_40 ?_
        exact w_L_case1 hst K hE hN hsc _ ih i land there near worn trial fits ways joined mcel mtint mcells mnear mthere mways mmore mthrown out c9 s9 hc hs (h.2.1 e1)
      by_cases e2 : ((xs i.toNatClampNeg) &&& (31 : Int32)) = nI 2
      · refine x_swIn (pc := 40) (hi := 23) (off := 296) (tgt := 336) K 2 e2 (by decide) (by decide) rfl (by decide) dL_law_40 ?_
        exact w_L_case2 hst K hE hN hsc _ ih i land there near worn trial fits ways joined mcel mtint mcells mnear mthere mways mmore mthrown out c9 s9 hc hs (h.2.2.1 e2)
      by_cases e3 : ((xs i.toNatClampNeg) &&& (31 : Int32)) = nI 3
      · refine x_swIn (pc := 40) (hi := 23) (off := 364) (tgt := 404) K 3 e3 (by decide) (by decide) rfl (by decide) dL_law_40 ?_
        exact w_L_case3 hst K hE hN hsc _ ih i land there near worn trial fits ways joined mcel mtint mcells mnear mthere mways mmore mthrown out c9 s9 hc hs (h.2.2.2.1 e3)
      by_cases e4 : ((xs i.toNatClampNeg) &&& (31 : Int32)) = nI 4
      · refine x_swIn (pc := 40) (hi := 23) (off := 377) (tgt := 417) K 4 e4 (by decide) (by decide) rfl (by decide) dL_law_40 ?_
        exact w_L_case4 hst K hE hN hsc _ ih i land there near worn trial fits ways joined mcel mtint mcells mnear mthere mways mmore mthrown out c9 s9 hc hs (h.2.2.2.2.1 e4)
      by_cases e5 : ((xs i.toNatClampNeg) &&& (31 : Int32)) = nI 5
      · refine x_swIn (pc := 40) (hi := 23) (off := 433) (tgt := 473) K 5 e5 (by decide) (by decide) rfl (by decide) dL_law_40 ?_
        exact w_L_case5 hst K hE hN hsc _ ih i land there near worn trial fits ways joined mcel mtint mcells mnear mthere mways mmore mthrown out c9 s9 hc hs (h.2.2.2.2.2.1 e5)
      by_cases e6 : ((xs i.toNatClampNeg) &&& (31 : Int32)) = nI 6
      · refine x_swIn (pc := 40) (hi := 23) (off := 489) (tgt := 529) K 6 e6 (by decide) (by decide) rfl (by decide) dL_law_40 ?_
        exact w_L_case6 hst K hE hN hsc _ ih i land there near worn trial fits ways joined mcel mtint mcells mnear mthere mways mmore mthrown out c9 s9 hc hs (h.2.2.2.2.2.2.1 e6)
      by_cases e7 : ((xs i.toNatClampNeg) &&& (31 : Int32)) = nI 7
      · refine x_swIn (pc := 40) (hi := 23) (off := 545) (tgt := 585) K 7 e7 (by decide) (by decide) rfl (by decide) dL_law_40 ?_
        exact w_L_case7 hst K hE hN hsc _ ih i land there near worn trial fits ways joined mcel mtint mcells mnear mthere mways mmore mthrown out c9 s9 hc hs (h.2.2.2.2.2.2.2.1 e7)
      by_cases e8 : ((xs i.toNatClampNeg) &&& (31 : Int32)) = nI 8
      · refine x_swIn (pc := 40) (hi := 23) (off := 558) (tgt := 598) K 8 e8 (by decide) (by decide) rfl (by decide) dL_law_40 ?_
        exact w_L_case8 hst K hE hN hsc _ ih i land there near worn trial fits ways joined mcel mtint mcells mnear mthere mways mmore mthrown out c9 s9 hc hs (h.2.2.2.2.2.2.2.2.1 e8)
      by_cases e9 : ((xs i.toNatClampNeg) &&& (31 : Int32)) = nI 9
      · refine x_swIn (pc := 40) (hi := 23) (off := 614) (tgt := 654) K 9 e9 (by decide) (by decide) rfl (by decide) dL_law_40 ?_
        exact w_L_case9 hst K hE hN hsc _ ih i land there near worn trial fits ways joined mcel mtint mcells mnear mthere mways mmore mthrown out c9 s9 hc hs (h.2.2.2.2.2.2.2.2.2.1 e9)
      by_cases e10 : ((xs i.toNatClampNeg) &&& (31 : Int32)) = nI 10
      · refine x_swIn (pc := 40) (hi := 23) (off := 682) (tgt := 722) K 10 e10 (by decide) (by decide) rfl (by decide) dL_law_40 ?_
        exact w_L_case10 hst K hE hN hsc _ ih i land there near worn trial fits ways joined mcel mtint mcells mnear mthere mways mmore mthrown out c9 s9 hc hs (h.2.2.2.2.2.2.2.2.2.2.1 e10)
      by_cases e11 : ((xs i.toNatClampNeg) &&& (31 : Int32)) = nI 11
      · refine x_swIn (pc := 40) (hi := 23) (off := 738) (tgt := 778) K 11 e11 (by decide) (by decide) rfl (by decide) dL_law_40 ?_
        exact w_L_case11 hst K hE hN hsc _ ih i land there near worn trial fits ways joined mcel mtint mcells mnear mthere mways mmore mthrown out c9 s9 hc hs (h.2.2.2.2.2.2.2.2.2.2.2.1 e11)
      by_cases e12 : ((xs i.toNatClampNeg) &&& (31 : Int32)) = nI 12
      · refine x_swIn (pc := 40) (hi := 23) (off := 751) (tgt := 791) K 12 e12 (by decide) (by decide) rfl (by decide) dL_law_40 ?_
        exact w_L_case12 hst K hE hN hsc _ ih i land there near worn trial fits ways joined mcel mtint mcells mnear mthere mways mmore mthrown out c9 s9 hc hs (h.2.2.2.2.2.2.2.2.2.2.2.2.1 e12)
      by_cases e13 : ((xs i.toNatClampNeg) &&& (31 : Int32)) = nI 13
      · refine x_swIn (pc := 40) (hi := 23) (off := 819) (tgt := 859) K 13 e13 (by decide) (by decide) rfl (by decide) dL_law_40 ?_
        exact w_L_case13 hst K hE hN hsc _ ih i land there near worn trial fits ways joined mcel mtint mcells mnear mthere mways mmore mthrown out c9 s9 hc hs (h.2.2.2.2.2.2.2.2.2.2.2.2.2.1 e13)
      by_cases e14 : ((xs i.toNatClampNeg) &&& (31 : Int32)) = nI 14
      · refine x_swIn (pc := 40) (hi := 23) (off := 875) (tgt := 915) K 14 e14 (by decide) (by decide) rfl (by decide) dL_law_40 ?_
        exact w_L_case14 hst K hE hN hsc _ ih i land there near worn trial fits ways joined mcel mtint mcells mnear mthere mways mmore mthrown out c9 s9 hc hs (h.2.2.2.2.2.2.2.2.2.2.2.2.2.2.1 e14)
      by_cases e15 : ((xs i.toNatClampNeg) &&& (31 : Int32)) = nI 15
      · refine x_swIn (pc := 40) (hi := 23) (off := 888) (tgt := 928) K 15 e15 (by decide) (by decide) rfl (by decide) dL_law_40 ?_
        exact w_L_case15 hst K hE hN hsc _ ih i land there near worn trial fits ways joined mcel mtint mcells mnear mthere mways mmore mthrown out c9 s9 hc hs (h.2.2.2.2.2.2.2.2.2.2.2.2.2.2.2.1 e15)
      by_cases e16 : ((xs i.toNatClampNeg) &&& (31 : Int32)) = nI 16
      · refine x_swIn (pc := 40) (hi := 23) (off := 901) (tgt := 941) K 16 e16 (by decide) (by decide) rfl (by decide) dL_law_40 ?_
        exact w_L_case16 hst K hE hN hsc _ ih i land there near worn trial fits ways joined mcel mtint mcells mnear mthere mways mmore mthrown out c9 s9 hc hs (h.2.2.2.2.2.2.2.2.2.2.2.2.2.2.2.2.1 e16)
      by_cases e17 : ((xs i.toNatClampNeg) &&& (31 : Int32)) = nI 17
      · refine x_swIn (pc := 40) (hi := 23) (off := 957) (tgt := 997) K 17 e17 (by decide) (by decide) rfl (by decide) dL_law_40 ?_
        exact w_L_case17 hst K hE hN hsc _ ih i land there near worn trial fits ways joined mcel mtint mcells mnear mthere mways mmore mthrown out c9 s9 hc hs (h.2.2.2.2.2.2.2.2.2.2.2.2.2.2.2.2.2.1 e17)
      by_cases e18 : ((xs i.toNatClampNeg) &&& (31 : Int32)) = nI 18
      · refine x_swIn (pc := 40) (hi := 23) (off := 1025) (tgt := 1065) K 18 e18 (by decide) (by decide) rfl (by decide) dL_law_40 ?_
        exact w_L_case18 hst K hE hN hsc _ ih i land there near worn trial fits ways joined mcel mtint mcells mnear mthere mways mmore mthrown out c9 s9 hc hs (h.2.2.2.2.2.2.2.2.2.2.2.2.2.2.2.2.2.2.1 e18)
      by_cases e19 : ((xs i.toNatClampNeg) &&& (31 : Int32)) = nI 19
      · refine x_swIn (pc := 40) (hi := 23) (off := 1093) (tgt := 1133) K 19 e19 (by decide) (by decide) rfl (by decide) dL_law_40 ?_
        exact w_L_case19 hst K hE hN hsc _ ih i land there near worn trial fits ways joined mcel mtint mcells mnear mthere mways mmore mthrown out c9 s9 hc hs (h.2.2.2.2.2.2.2.2.2.2.2.2.2.2.2.2.2.2.2.1 e19)
      by_cases e20 : ((xs i.toNatClampNeg) &&& (31 : Int32)) = nI 20
      · refine x_swIn (pc := 40) (hi := 23) (off := 1134) (tgt := 1174) K 20 e20 (by decide) (by decide) rfl (by decide) dL_law_40 ?_
        exact w_L_case20 hst K hE hN hsc _ ih i land there near worn trial fits ways joined mcel mtint mcells mnear mthere mways mmore mthrown out c9 s9 hc hs (h.2.2.2.2.2.2.2.2.2.2.2.2.2.2.2.2.2.2.2.2.1 e20)
      by_cases e21 : ((xs i.toNatClampNeg) &&& (31 : Int32)) = nI 21
      · refine x_swIn (pc := 40) (hi := 23) (off := 1147) (tgt := 1187) K 21 e21 (by decide) (by decide) rfl (by decide) dL_law_40 ?_
        exact w_L_case21 hst K hE hN hsc _ ih i land there near worn trial fits ways joined mcel mtint mcells mnear mthere mways mmore mthrown out c9 s9 hc hs (h.2.2.2.2.2.2.2.2.2.2.2.2.2.2.2.2.2.2.2.2.2.1 e21)
      by_cases e22 : ((xs i.toNatClampNeg) &&& (31 : Int32)) = nI 22
      · refine x_swIn (pc := 40) (hi := 23) (off := 1160) (tgt := 1200) K 22 e22 (by decide) (by decide) rfl (by decide) dL_law_40 ?_
        exact w_L_case22 hst K hE hN hsc _ ih i land there near worn trial fits ways joined mcel mtint mcells mnear mthere mways mmore mthrown out c9 s9 hc hs (h.2.2.2.2.2.2.2.2.2.2.2.2.2.2.2.2.2.2.2.2.2.2.1 e22)
      by_cases e23 : ((xs i.toNatClampNeg) &&& (31 : Int32)) = nI 23
      · refine x_swIn (pc := 40) (hi := 23) (off := 1215) (tgt := 1255) K 23 e23 (by decide) (by decide) rfl (by decide) dL_law_40 ?_
        exact w_L_case23 hst K hE hN hsc _ ih i land there near worn trial fits ways joined mcel mtint mcells mnear mthere mways mmore mthrown out c9 s9 hc hs (h.2.2.2.2.2.2.2.2.2.2.2.2.2.2.2.2.2.2.2.2.2.2.2.1 e23)
      have hno : ∀ k : Nat, k ≤ 23 → ((xs i.toNatClampNeg) &&& (31 : Int32)) ≠ nI k := by
        intro k hk
        match k, hk with
        | 0, _ => exact e0
        | 1, _ => exact e1
        | 2, _ => exact e2
        | 3, _ => exact e3
        | 4, _ => exact e4
        | 5, _ => exact e5
        | 6, _ => exact e6
        | 7, _ => exact e7
        | 8, _ => exact e8
        | 9, _ => exact e9
        | 10, _ => exact e10
        | 11, _ => exact e11
        | 12, _ => exact e12
        | 13, _ => exact e13
        | 14, _ => exact e14
        | 15, _ => exact e15
        | 16, _ => exact e16
        | 17, _ => exact e17
        | 18, _ => exact e18
        | 19, _ => exact e19
        | 20, _ => exact e20
        | 21, _ => exact e21
        | 22, _ => exact e22
        | 23, _ => exact e23
        | k + 24, hk => exact absurd hk (by omega)
      refine x_swOut (pc := 40) (hi := 23) (tgt := 1310) K hno (by decide) (by decide) dL_law_40 ?_
      exact w_L_case24 hst K hE hN hsc _ ih i land there near worn trial fits ways joined mcel mtint mcells mnear mthere mways mmore mthrown out c9 s9 hc hs (h.2.2.2.2.2.2.2.2.2.2.2.2.2.2.2.2.2.2.2.2.2.2.2.2 hno)
