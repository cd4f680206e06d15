/-! the law's loop -/
def wLaw (cI cJ cZ cA : ClassId) (V U : Nat → Nat) (land : Nat → Int64) (there : Int32) (near : Nat → Int32) (worn : Nat → Int32) (trial : Nat → Int32) (fits : Nat → Int32) (ways : Nat → Int64) (joined : Nat → Nat → Int32) (mcel : Nat → Int32) (mtint : Nat → Int32) (mcells : Nat → Int64) (mnear : Nat → Int32) (mthere : Int32) (mways : Nat → Int64) (mmore : Nat → Int64) (mthrown : Int32) (ao : Nat) (out : Nat → Int64) : va_W := (wX0J cI cJ cZ cA V land there near worn trial fits ways joined ++ wX1 cI cJ cZ cA U mcel mtint mcells mnear mthere mways mmore mthrown) ++ [(ao, .inl (cJ, 1, .inr (.inl out)))]
def xsc : xC → Nat → Nat → (Nat → Int32) → Prop
  | ((_, _, _, _, s, _, _, _, _, _), (_, _, A, _, _, _)), b, L, xs => va_X b L xs s s.heap ∧ b < s.heap.size ∧ ¬ A b
def xno : xC → Prop
  | ((_, _, _, _, s, _, _, _, _, _), _) => ∀ q ∈ xNo, va_Nc q.1 q.2 s
def xend (X : xC) : Prop := ∀ (pc : Nat) (lv : List (Nat × Value)) (ws : va_W), decode cL_law pc = .ok (.ireturn, 1) → xw X 601024 7293034 pc lv [.int 1] ws
section XL
variable {X : xC} {l0 : Launch} {R0 : Room} {D0 : va_G} {cl0 : List vw_C} {tys0 : List (ClassId × FieldType)} {cc : ByteArray} {own : String} {Ts : List Cond} {nL cells slots pc : Nat} {lv lv' : List (Nat × Value)} {st : List Value} {ws : va_W}
theorem x_slen (K : xk X l0 R0 D0 cl0 tys0 cc own Ts nL) {b L : Nat} {xs : Nat → Int32} (hsc : xsc X b L xs) (d : decode cc pc = .ok (.arraylength, 1)) (kk : xw X cells slots (pc + 1) lv (.int (nI L) :: st) ws) : xw X cells slots pc lv (.ref b :: st) ws := by
  obtain ⟨⟨p, l, e, R, s, m, args, below, meth, c⟩, ⟨D, cl, A, tys, nX, Q⟩⟩ := X
  obtain ⟨rfl, rfl, rfl, rfl, rfl, hx, hb, hml, rfl, hown, hts, hK, hA, hlk⟩ := K
  intro H locs ls hP hD hS hl
  exact va_slen hx hb hsc.1 hsc.2.1 hsc.2.2 hS d (kk H locs ls hP hD hS hl)
theorem x_sld (K : xk X l0 R0 D0 cl0 tys0 cc own Ts nL) {b L : Nat} {xs : Nat → Int32} (hsc : xsc X b L xs) {i : Int32} (hin : xin i L = true) (d : decode cc pc = .ok (.iaload, 1)) (kk : xw X cells slots (pc + 1) lv (.int (xs i.toNatClampNeg) :: st) ws) : xw X cells slots pc lv (.int i :: .ref b :: st) ws := by
  obtain ⟨⟨p, l, e, R, s, m, args, below, meth, c⟩, ⟨D, cl, A, tys, nX, Q⟩⟩ := X
  obtain ⟨rfl, rfl, rfl, rfl, rfl, hx, hb, hml, rfl, hown, hts, hK, hA, hlk⟩ := K
  intro H locs ls hP hD hS hl
  exact va_sld hx hb hsc.1 hsc.2.1 hsc.2.2 hS (xin_of hin) d (kk H locs ls hP hD hS hl)
theorem x_swIn (K : xk X l0 R0 D0 cl0 tys0 cc own Ts nL) {dflt : Int} {offs : Array Int} {len hi : Nat} {x : Int32} {off : Int} {tgt : Nat} (k : Nat) (h : x = nI k) (hk : k ≤ hi) (hh : hi < 1000) (ho : offs[k]? = some off) (ht : (pc : Int) + off = (tgt : Int)) (d : decode cc pc = .ok (.tableswitch dflt 0 (hi : Nat) offs, len)) (kk : xw X cells slots tgt lv st ws) : xw X cells slots pc lv (.int x :: st) ws := by
  obtain ⟨⟨p, l, e, R, s, m, args, below, meth, c⟩, ⟨D, cl, A, tys, nX, Q⟩⟩ := X
  obtain ⟨rfl, rfl, rfl, rfl, rfl, hx, hb, hml, rfl, hown, hts, hK, hA, hlk⟩ := K
  intro H locs ls hP hD hS hl
  subst h
  have e : (nI k).toInt = (k : Int) := nI_toInt (by omega)
  exact lv_tableIn hx hb d (by rw [e]; omega) (by rw [e]; omega) (by rw [e]; simpa using ho) ht (kk H locs ls hP hD hS hl)
theorem x_swOut (K : xk X l0 R0 D0 cl0 tys0 cc own Ts nL) {dflt : Int} {offs : Array Int} {len hi : Nat} {x : Int32} {tgt : Nat} (h : ∀ k : Nat, k ≤ hi → x ≠ nI k) (hh : hi < 1000) (ht : (pc : Int) + dflt = (tgt : Int)) (d : decode cc pc = .ok (.tableswitch dflt 0 (hi : Nat) offs, len)) (kk : xw X cells slots tgt lv st ws) : xw X cells slots pc lv (.int x :: st) ws := by
  obtain ⟨⟨p, l, e, R, s, m, args, below, meth, c⟩, ⟨D, cl, A, tys, nX, Q⟩⟩ := X
  obtain ⟨rfl, rfl, rfl, rfl, rfl, hx, hb, hml, rfl, hown, hts, hK, hA, hlk⟩ := K
  intro H locs ls hP hD hS hl
  refine lv_tableOut hx hb d ?_ ht (kk H locs ls hP hD hS hl)
  refine Classical.byContradiction fun hn => ?_
  have h1 : ¬ x.toInt < 0 := fun q => hn (Or.inl q)
  have h2 : ¬ (hi : Int) < x.toInt := fun q => hn (Or.inr q)
  refine h x.toInt.toNat (by omega) ?_
  rw [← Int32.toInt_inj, nI_toInt (by omega)]
  omega
theorem x_hcallS (K : xk X l0 R0 D0 cl0 tys0 cc own Ts nL) {y : MethodName} {w w' : List Cond} {rm : Room} {bytes : ByteArray} {maxL n idx : Nat} {av st0 : List Value} {wc : va_W} {σ : Type} {wf : σ → va_W} {P : Int32 → σ → Prop} {ow2 : String} {L L2 : List (Nat × String)} {mc ms : Nat} (hE : xEx X ow2 L2) (hN : xno X) (hL : ∀ q ∈ L, q ∈ L2) (hM : xHi l0 y w rm D0 cl0 tys0 wc av ow2 L wf P mc ms) (hrc : rm.cells = mc) (hrs : rm.slots = ms) (hg : GoodIn Ts (va_wsS own idx y w)) {hh : List (Nat × Nat × Nat × Nat)} (hw : w = Cond.codeWith y bytes maxL (some .int) hh :: w') (hd : y.cls ≠ "java/lang/invoke/MethodHandle" ∧ y.cls ≠ "java/lang/invoke/VarHandle" ∧ (parseMethodDescriptor y.desc).map (fun d => d.parameters.length) = some n) (hroom : rm.frames + 1 ≤ R0.frames ∧ 8 + (maxL + 11) + rm.locals ≤ R0.locals) (hn : av.length = n) (hst : st0 = av.reverse ++ st) (hcat : (st.map fun v => v.category).sum ≤ 8)
    (isC isR : List Nat) {wr : va_W} (hC : isC.map (fun i => ws[i]?) = wc.map some) (hRr : isR.map (fun i => ws[i]?) = wr.map some) (hnC : va_nd isC = true) (hnd : va_nd isR = true) (hdis : ∀ i ∈ isR, i ∉ isC) (d : decode cc pc = .ok (.invokestatic idx, 3)) (hf : cells + mc ≤ R0.cells ∧ slots + ms ≤ R0.slots)
    (kk : ∀ (r : Int32) (u : σ), P r u → xw X (cells + mc) (slots + ms) (pc + 3) lv (.int r :: st) (wr ++ wf u)) : xw X cells slots pc lv st0 ws := by
  obtain ⟨⟨p, l, e, R, s, m, args, below, meth, c⟩, ⟨D, cl, A, tys, nX, Q⟩⟩ := X
  obtain ⟨rfl, rfl, rfl, rfl, rfl, hx, hb, hml, rfl, hown, hts, hK, hA, hlk⟩ := K
  intro H locs ls hP hD hS hl
  have hE : xE ow2 L A s := ⟨hE.1, hE.2.1, fun q hq => hE.2.2.1 q (hL q hq), hE.2.2.2⟩
  have hPc := hP.sub (ws' := wc) isC (xfm hC)
  have hDc := hD.sub (ws' := wc) isC hnC hC
  have hFc := va_free (wc := wc) hD hS hA isC hC
  refine va_calli (vx_runSW (As := av) (rest := st) ⟨hx, hb, hml, hown, hts⟩ (hM H.size) (vx_cwSW n hts hg hw hrc hrs hd hroom) ⟨xPreH_blind, fun U hU hW => ⟨rfl, by rw [hU], by rw [hU]; exact hPc, va_K.moved hW.alike hK, hDc.weaken (fun _ _ _ _ => trivial), xE_go hE hS hFc hU hW, fun q hq => va_Nc.moved hW.alike (hN q hq)⟩⟩ rfl hn hl.1 hst (lv_room hcat) d hf) hS (fun q _ h => hFc q h) hFc (fun r u t H1 locs ht hvm hw hB hz1 hk1 hS => ?_)
  obtain ⟨hP1, hK1, hD1⟩ := hB
  rw [ht] at hP1
  obtain ⟨hP, hD⟩ := va_join (wr := wr) (w1 := wf u) hP hD isC isR hC hRr hnd hdis hk1 hFc hP1 hD1
  exact kk r u hw H1 locs ls hP hD hS hl
end XL
def q_L_case0 (L : Nat) (xs : Nat → Int32) (rec9 : Int32 → (Nat → Int64) → Int32 → (Nat → Int32) → (Nat → Int32) → (Nat → Int32) → (Nat → Int32) → (Nat → Int64) → (Nat → Nat → Int32) → (Nat → Int32) → (Nat → Int32) → (Nat → Int64) → (Nat → Int32) → Int32 → (Nat → Int64) → (Nat → Int64) → Int32 → (Nat → Int64) → Prop) (i : Int32) (land : Nat → Int64) (there : Int32) (near : Nat → Int32) (worn : Nat → Int32) (trial : Nat → Int32) (fits : Nat → Int32) (ways : Nat → Int64) (joined : Nat → Nat → Int32) (mcel : Nat → Int32) (mtint : Nat → Int32) (mcells : Nat → Int64) (mnear : Nat → Int32) (mthere : Int32) (mways : Nat → Int64) (mmore : Nat → Int64) (mthrown : Int32) (out : Nat → Int64) : Prop := xin (i + (1 : Int32)) L = true ∧ xin (i + (2 : Int32)) L = true ∧ xin (i + (3 : Int32)) L = true ∧ q_L_paint (xs (i + (1 : Int32)).toNatClampNeg) (xs (i + (2 : Int32)).toNatClampNeg) (xs (i + (3 : Int32)).toNatClampNeg) land near there out (fun (k1005 : Int32) (land_1001 : Nat → Int64) (there_1002 : Int32) (near_1003 : Nat → Int32) (out_1004 : Nat → Int64) => xin (i + (1 : Int32)) L = true ∧ xin (i + (2 : Int32)) L = true ∧ xin (i + (3 : Int32)) L = true ∧ q_X1_paint (xs (i + (1 : Int32)).toNatClampNeg) (xs (i + (2 : Int32)).toNatClampNeg) (xs (i + (3 : Int32)).toNatClampNeg) mcel (fun (r1008 : Int32) (mcel_1006 : Nat → Int32) (mthrown_1007 : Int32) => q_X1_thrown mthrown_1007 (fun (r1009 : Int32)  => ((r1009 = k1005 → ((¬ k1005 = (0 : Int32) → rec9 (i + (6 : Int32)) land_1001 there_1002 near_1003 worn trial fits ways joined mcel_1006 mtint mcells mnear mthere mways mmore mthrown_1007 out_1004) ∧ (k1005 = (0 : Int32) → (((lg_cmp (out_1004 (0 : Int32).toNatClampNeg) r1008.toInt64) = (0 : Int32) → rec9 (i + (6 : Int32)) land_1001 there_1002 near_1003 worn trial fits ways joined mcel_1006 mtint mcells mnear mthere mways mmore mthrown_1007 out_1004) ∧ (¬ (lg_cmp (out_1004 (0 : Int32).toNatClampNeg) r1008.toInt64) = (0 : Int32) → False))))) ∧ (¬ r1009 = k1005 → False)))))
def q_L_case1 (L : Nat) (xs : Nat → Int32) (rec9 : Int32 → (Nat → Int64) → Int32 → (Nat → Int32) → (Nat → Int32) → (Nat → Int32) → (Nat → Int32) → (Nat → Int64) → (Nat → Nat → Int32) → (Nat → Int32) → (Nat → Int32) → (Nat → Int64) → (Nat → Int32) → Int32 → (Nat → Int64) → (Nat → Int64) → Int32 → (Nat → Int64) → Prop) (i : Int32) (land : Nat → Int64) (there : Int32) (near : Nat → Int32) (worn : Nat → Int32) (trial : Nat → Int32) (fits : Nat → Int32) (ways : Nat → Int64) (joined : Nat → Nat → Int32) (mcel : Nat → Int32) (mtint : Nat → Int32) (mcells : Nat → Int64) (mnear : Nat → Int32) (mthere : Int32) (mways : Nat → Int64) (mmore : Nat → Int64) (mthrown : Int32) (out : Nat → Int64) : Prop := xin (i + (1 : Int32)) L = true ∧ xin (i + (2 : Int32)) L = true ∧ xin (i + (3 : Int32)) L = true ∧ xin (i + (4 : Int32)) L = true ∧ xin (i + (5 : Int32)) L = true ∧ q_L_paintBlock (xs (i + (1 : Int32)).toNatClampNeg) (xs (i + (2 : Int32)).toNatClampNeg) (xs (i + (3 : Int32)).toNatClampNeg) (xs (i + (4 : Int32)).toNatClampNeg) (xs (i + (5 : Int32)).toNatClampNeg) land near there out (fun (k2005 : Int32) (land_2001 : Nat → Int64) (there_2002 : Int32) (near_2003 : Nat → Int32) (out_2004 : Nat → Int64) => xin (i + (1 : Int32)) L = true ∧ xin (i + (2 : Int32)) L = true ∧ xin (i + (3 : Int32)) L = true ∧ xin (i + (4 : Int32)) L = true ∧ xin (i + (5 : Int32)) L = true ∧ q_X1_paintBlock (xs (i + (1 : Int32)).toNatClampNeg) (xs (i + (2 : Int32)).toNatClampNeg) (xs (i + (3 : Int32)).toNatClampNeg) (xs (i + (4 : Int32)).toNatClampNeg) (xs (i + (5 : Int32)).toNatClampNeg) mcel (fun (r2008 : Int32) (mcel_2006 : Nat → Int32) (mthrown_2007 : Int32) => q_X1_thrown mthrown_2007 (fun (r2009 : Int32)  => ((r2009 = k2005 → ((¬ k2005 = (0 : Int32) → rec9 (i + (6 : Int32)) land_2001 there_2002 near_2003 worn trial fits ways joined mcel_2006 mtint mcells mnear mthere mways mmore mthrown_2007 out_2004) ∧ (k2005 = (0 : Int32) → (((lg_cmp (out_2004 (0 : Int32).toNatClampNeg) r2008.toInt64) = (0 : Int32) → rec9 (i + (6 : Int32)) land_2001 there_2002 near_2003 worn trial fits ways joined mcel_2006 mtint mcells mnear mthere mways mmore mthrown_2007 out_2004) ∧ (¬ (lg_cmp (out_2004 (0 : Int32).toNatClampNeg) r2008.toInt64) = (0 : Int32) → False))))) ∧ (¬ r2009 = k2005 → False)))))
def q_L_case2 (L : Nat) (xs : Nat → Int32) (rec9 : Int32 → (Nat → Int64) → Int32 → (Nat → Int32) → (Nat → Int32) → (Nat → Int32) → (Nat → Int32) → (Nat → Int64) → (Nat → Nat → Int32) → (Nat → Int32) → (Nat → Int32) → (Nat → Int64) → (Nat → Int32) → Int32 → (Nat → Int64) → (Nat → Int64) → Int32 → (Nat → Int64) → Prop) (i : Int32) (land : Nat → Int64) (there : Int32) (near : Nat → Int32) (worn : Nat → Int32) (trial : Nat → Int32) (fits : Nat → Int32) (ways : Nat → Int64) (joined : Nat → Nat → Int32) (mcel : Nat → Int32) (mtint : Nat → Int32) (mcells : Nat → Int64) (mnear : Nat → Int32) (mthere : Int32) (mways : Nat → Int64) (mmore : Nat → Int64) (mthrown : Int32) (out : Nat → Int64) : Prop := xin (i + (1 : Int32)) L = true ∧ xin (i + (2 : Int32)) L = true ∧ q_L_countryAt (xs (i + (1 : Int32)).toNatClampNeg) (xs (i + (2 : Int32)).toNatClampNeg) land out (fun (k3002 : Int32) (out_3001 : Nat → Int64) => xin (i + (1 : Int32)) L = true ∧ xin (i + (2 : Int32)) L = true ∧ q_X1_countryAt (xs (i + (1 : Int32)).toNatClampNeg) (xs (i + (2 : Int32)).toNatClampNeg) mcel (fun (r3004 : Int32) (mthrown_3003 : Int32) => q_X1_thrown mthrown_3003 (fun (r3005 : Int32)  => ((r3005 = k3002 → ((¬ k3002 = (0 : Int32) → rec9 (i + (6 : Int32)) land there near worn trial fits ways joined mcel mtint mcells mnear mthere mways mmore mthrown_3003 out_3001) ∧ (k3002 = (0 : Int32) → (((lg_cmp (out_3001 (0 : Int32).toNatClampNeg) r3004.toInt64) = (0 : Int32) → rec9 (i + (6 : Int32)) land there near worn trial fits ways joined mcel mtint mcells mnear mthere mways mmore mthrown_3003 out_3001) ∧ (¬ (lg_cmp (out_3001 (0 : Int32).toNatClampNeg) r3004.toInt64) = (0 : Int32) → False))))) ∧ (¬ r3005 = k3002 → False)))))
def q_L_case3 (L : Nat) (xs : Nat → Int32) (rec9 : Int32 → (Nat → Int64) → Int32 → (Nat → Int32) → (Nat → Int32) → (Nat → Int32) → (Nat → Int32) → (Nat → Int64) → (Nat → Nat → Int32) → (Nat → Int32) → (Nat → Int32) → (Nat → Int64) → (Nat → Int32) → Int32 → (Nat → Int64) → (Nat → Int64) → Int32 → (Nat → Int64) → Prop) (i : Int32) (land : Nat → Int64) (there : Int32) (near : Nat → Int32) (worn : Nat → Int32) (trial : Nat → Int32) (fits : Nat → Int32) (ways : Nat → Int64) (joined : Nat → Nat → Int32) (mcel : Nat → Int32) (mtint : Nat → Int32) (mcells : Nat → Int64) (mnear : Nat → Int32) (mthere : Int32) (mways : Nat → Int64) (mmore : Nat → Int64) (mthrown : Int32) (out : Nat → Int64) : Prop := q_X0_countries there (fun (r4001 : Int32)  => q_X1_countries mcel mcells mnear (fun (r4006 : Int32) (mcells_4002 : Nat → Int64) (mnear_4003 : Nat → Int32) (mthere_4004 : Int32) (mthrown_4005 : Int32) => ((r4001 = r4006 → rec9 (i + (6 : Int32)) land there near worn trial fits ways joined mcel mtint mcells_4002 mnear_4003 mthere_4004 mways mmore mthrown_4005 out) ∧ (¬ r4001 = r4006 → False))))
def q_L_case4 (L : Nat) (xs : Nat → Int32) (rec9 : Int32 → (Nat → Int64) → Int32 → (Nat → Int32) → (Nat → Int32) → (Nat → Int32) → (Nat → Int32) → (Nat → Int64) → (Nat → Nat → Int32) → (Nat → Int32) → (Nat → Int32) → (Nat → Int64) → (Nat → Int32) → Int32 → (Nat → Int64) → (Nat → Int64) → Int32 → (Nat → Int64) → Prop) (i : Int32) (land : Nat → Int64) (there : Int32) (near : Nat → Int32) (worn : Nat → Int32) (trial : Nat → Int32) (fits : Nat → Int32) (ways : Nat → Int64) (joined : Nat → Nat → Int32) (mcel : Nat → Int32) (mtint : Nat → Int32) (mcells : Nat → Int64) (mnear : Nat → Int32) (mthere : Int32) (mways : Nat → Int64) (mmore : Nat → Int64) (mthrown : Int32) (out : Nat → Int64) : Prop := xin (i + (1 : Int32)) L = true ∧ q_L_area (xs (i + (1 : Int32)).toNatClampNeg) land out (fun (k5002 : Int32) (out_5001 : Nat → Int64) => xin (i + (1 : Int32)) L = true ∧ q_X1_area (xs (i + (1 : Int32)).toNatClampNeg) mcel mcells mnear (fun (r5007 : Int32) (mcells_5003 : Nat → Int64) (mnear_5004 : Nat → Int32) (mthere_5005 : Int32) (mthrown_5006 : Int32) => q_X1_thrown mthrown_5006 (fun (r5008 : Int32)  => ((r5008 = k5002 → ((¬ k5002 = (0 : Int32) → rec9 (i + (6 : Int32)) land there near worn trial fits ways joined mcel mtint mcells_5003 mnear_5004 mthere_5005 mways mmore mthrown_5006 out_5001) ∧ (k5002 = (0 : Int32) → (((lg_cmp (out_5001 (0 : Int32).toNatClampNeg) r5007.toInt64) = (0 : Int32) → rec9 (i + (6 : Int32)) land there near worn trial fits ways joined mcel mtint mcells_5003 mnear_5004 mthere_5005 mways mmore mthrown_5006 out_5001) ∧ (¬ (lg_cmp (out_5001 (0 : Int32).toNatClampNeg) r5007.toInt64) = (0 : Int32) → False))))) ∧ (¬ r5008 = k5002 → False)))))
def q_L_case5 (L : Nat) (xs : Nat → Int32) (rec9 : Int32 → (Nat → Int64) → Int32 → (Nat → Int32) → (Nat → Int32) → (Nat → Int32) → (Nat → Int32) → (Nat → Int64) → (Nat → Nat → Int32) → (Nat → Int32) → (Nat → Int32) → (Nat → Int64) → (Nat → Int32) → Int32 → (Nat → Int64) → (Nat → Int64) → Int32 → (Nat → Int64) → Prop) (i : Int32) (land : Nat → Int64) (there : Int32) (near : Nat → Int32) (worn : Nat → Int32) (trial : Nat → Int32) (fits : Nat → Int32) (ways : Nat → Int64) (joined : Nat → Nat → Int32) (mcel : Nat → Int32) (mtint : Nat → Int32) (mcells : Nat → Int64) (mnear : Nat → Int32) (mthere : Int32) (mways : Nat → Int64) (mmore : Nat → Int64) (mthrown : Int32) (out : Nat → Int64) : Prop := xin (i + (1 : Int32)) L = true ∧ q_L_pieces (xs (i + (1 : Int32)).toNatClampNeg) land out (fun (k6002 : Int32) (out_6001 : Nat → Int64) => xin (i + (1 : Int32)) L = true ∧ q_X1_pieces (xs (i + (1 : Int32)).toNatClampNeg) mcel mcells mnear (fun (r6007 : Int32) (mcells_6003 : Nat → Int64) (mnear_6004 : Nat → Int32) (mthere_6005 : Int32) (mthrown_6006 : Int32) => q_X1_thrown mthrown_6006 (fun (r6008 : Int32)  => ((r6008 = k6002 → ((¬ k6002 = (0 : Int32) → rec9 (i + (6 : Int32)) land there near worn trial fits ways joined mcel mtint mcells_6003 mnear_6004 mthere_6005 mways mmore mthrown_6006 out_6001) ∧ (k6002 = (0 : Int32) → (((lg_cmp (out_6001 (0 : Int32).toNatClampNeg) r6007.toInt64) = (0 : Int32) → rec9 (i + (6 : Int32)) land there near worn trial fits ways joined mcel mtint mcells_6003 mnear_6004 mthere_6005 mways mmore mthrown_6006 out_6001) ∧ (¬ (lg_cmp (out_6001 (0 : Int32).toNatClampNeg) r6007.toInt64) = (0 : Int32) → False))))) ∧ (¬ r6008 = k6002 → False)))))
def q_L_case6 (L : Nat) (xs : Nat → Int32) (rec9 : Int32 → (Nat → Int64) → Int32 → (Nat → Int32) → (Nat → Int32) → (Nat → Int32) → (Nat → Int32) → (Nat → Int64) → (Nat → Nat → Int32) → (Nat → Int32) → (Nat → Int32) → (Nat → Int64) → (Nat → Int32) → Int32 → (Nat → Int64) → (Nat → Int64) → Int32 → (Nat → Int64) → Prop) (i : Int32) (land : Nat → Int64) (there : Int32) (near : Nat → Int32) (worn : Nat → Int32) (trial : Nat → Int32) (fits : Nat → Int32) (ways : Nat → Int64) (joined : Nat → Nat → Int32) (mcel : Nat → Int32) (mtint : Nat → Int32) (mcells : Nat → Int64) (mnear : Nat → Int32) (mthere : Int32) (mways : Nat → Int64) (mmore : Nat → Int64) (mthrown : Int32) (out : Nat → Int64) : Prop := xin (i + (1 : Int32)) L = true ∧ q_L_largestPiece (xs (i + (1 : Int32)).toNatClampNeg) land out (fun (k7002 : Int32) (out_7001 : Nat → Int64) => xin (i + (1 : Int32)) L = true ∧ q_X1_largestPiece (xs (i + (1 : Int32)).toNatClampNeg) mcel mcells mnear (fun (r7007 : Int32) (mcells_7003 : Nat → Int64) (mnear_7004 : Nat → Int32) (mthere_7005 : Int32) (mthrown_7006 : Int32) => q_X1_thrown mthrown_7006 (fun (r7008 : Int32)  => ((r7008 = k7002 → ((¬ k7002 = (0 : Int32) → rec9 (i + (6 : Int32)) land there near worn trial fits ways joined mcel mtint mcells_7003 mnear_7004 mthere_7005 mways mmore mthrown_7006 out_7001) ∧ (k7002 = (0 : Int32) → (((lg_cmp (out_7001 (0 : Int32).toNatClampNeg) r7007.toInt64) = (0 : Int32) → rec9 (i + (6 : Int32)) land there near worn trial fits ways joined mcel mtint mcells_7003 mnear_7004 mthere_7005 mways mmore mthrown_7006 out_7001) ∧ (¬ (lg_cmp (out_7001 (0 : Int32).toNatClampNeg) r7007.toInt64) = (0 : Int32) → False))))) ∧ (¬ r7008 = k7002 → False)))))
def q_L_case7 (L : Nat) (xs : Nat → Int32) (rec9 : Int32 → (Nat → Int64) → Int32 → (Nat → Int32) → (Nat → Int32) → (Nat → Int32) → (Nat → Int32) → (Nat → Int64) → (Nat → Nat → Int32) → (Nat → Int32) → (Nat → Int32) → (Nat → Int64) → (Nat → Int32) → Int32 → (Nat → Int64) → (Nat → Int64) → Int32 → (Nat → Int64) → Prop) (i : Int32) (land : Nat → Int64) (there : Int32) (near : Nat → Int32) (worn : Nat → Int32) (trial : Nat → Int32) (fits : Nat → Int32) (ways : Nat → Int64) (joined : Nat → Nat → Int32) (mcel : Nat → Int32) (mtint : Nat → Int32) (mcells : Nat → Int64) (mnear : Nat → Int32) (mthere : Int32) (mways : Nat → Int64) (mmore : Nat → Int64) (mthrown : Int32) (out : Nat → Int64) : Prop := q_X0_scattered land (fun (r8001 : Int32)  => q_X1_scattered mcel mcells mnear (fun (r8006 : Int32) (mcells_8002 : Nat → Int64) (mnear_8003 : Nat → Int32) (mthere_8004 : Int32) (mthrown_8005 : Int32) => ((r8001 = r8006 → rec9 (i + (6 : Int32)) land there near worn trial fits ways joined mcel mtint mcells_8002 mnear_8003 mthere_8004 mways mmore mthrown_8005 out) ∧ (¬ r8001 = r8006 → False))))
def q_L_case8 (L : Nat) (xs : Nat → Int32) (rec9 : Int32 → (Nat → Int64) → Int32 → (Nat → Int32) → (Nat → Int32) → (Nat → Int32) → (Nat → Int32) → (Nat → Int64) → (Nat → Nat → Int32) → (Nat → Int32) → (Nat → Int32) → (Nat → Int64) → (Nat → Int32) → Int32 → (Nat → Int64) → (Nat → Int64) → Int32 → (Nat → Int64) → Prop) (i : Int32) (land : Nat → Int64) (there : Int32) (near : Nat → Int32) (worn : Nat → Int32) (trial : Nat → Int32) (fits : Nat → Int32) (ways : Nat → Int64) (joined : Nat → Nat → Int32) (mcel : Nat → Int32) (mtint : Nat → Int32) (mcells : Nat → Int64) (mnear : Nat → Int32) (mthere : Int32) (mways : Nat → Int64) (mmore : Nat → Int64) (mthrown : Int32) (out : Nat → Int64) : Prop := xin (i + (1 : Int32)) L = true ∧ q_L_neighbours (xs (i + (1 : Int32)).toNatClampNeg) near out (fun (k9002 : Int32) (out_9001 : Nat → Int64) => xin (i + (1 : Int32)) L = true ∧ q_X1_neighbours (xs (i + (1 : Int32)).toNatClampNeg) mcel mcells mnear (fun (r9007 : Int32) (mcells_9003 : Nat → Int64) (mnear_9004 : Nat → Int32) (mthere_9005 : Int32) (mthrown_9006 : Int32) => q_X1_thrown mthrown_9006 (fun (r9008 : Int32)  => ((r9008 = k9002 → ((¬ k9002 = (0 : Int32) → rec9 (i + (6 : Int32)) land there near worn trial fits ways joined mcel mtint mcells_9003 mnear_9004 mthere_9005 mways mmore mthrown_9006 out_9001) ∧ (k9002 = (0 : Int32) → (((lg_cmp (out_9001 (0 : Int32).toNatClampNeg) r9007.toInt64) = (0 : Int32) → rec9 (i + (6 : Int32)) land there near worn trial fits ways joined mcel mtint mcells_9003 mnear_9004 mthere_9005 mways mmore mthrown_9006 out_9001) ∧ (¬ (lg_cmp (out_9001 (0 : Int32).toNatClampNeg) r9007.toInt64) = (0 : Int32) → False))))) ∧ (¬ r9008 = k9002 → False)))))
def q_L_case9 (L : Nat) (xs : Nat → Int32) (rec9 : Int32 → (Nat → Int64) → Int32 → (Nat → Int32) → (Nat → Int32) → (Nat → Int32) → (Nat → Int32) → (Nat → Int64) → (Nat → Nat → Int32) → (Nat → Int32) → (Nat → Int32) → (Nat → Int64) → (Nat → Int32) → Int32 → (Nat → Int64) → (Nat → Int64) → Int32 → (Nat → Int64) → Prop) (i : Int32) (land : Nat → Int64) (there : Int32) (near : Nat → Int32) (worn : Nat → Int32) (trial : Nat → Int32) (fits : Nat → Int32) (ways : Nat → Int64) (joined : Nat → Nat → Int32) (mcel : Nat → Int32) (mtint : Nat → Int32) (mcells : Nat → Int64) (mnear : Nat → Int32) (mthere : Int32) (mways : Nat → Int64) (mmore : Nat → Int64) (mthrown : Int32) (out : Nat → Int64) : Prop := xin (i + (1 : Int32)) L = true ∧ xin (i + (2 : Int32)) L = true ∧ q_L_border (xs (i + (1 : Int32)).toNatClampNeg) (xs (i + (2 : Int32)).toNatClampNeg) land out (fun (k10002 : Int32) (out_10001 : Nat → Int64) => xin (i + (1 : Int32)) L = true ∧ xin (i + (2 : Int32)) L = true ∧ q_X1_border (xs (i + (1 : Int32)).toNatClampNeg) (xs (i + (2 : Int32)).toNatClampNeg) mcel mcells mnear (fun (r10007 : Int32) (mcells_10003 : Nat → Int64) (mnear_10004 : Nat → Int32) (mthere_10005 : Int32) (mthrown_10006 : Int32) => q_X1_thrown mthrown_10006 (fun (r10008 : Int32)  => ((r10008 = k10002 → ((¬ k10002 = (0 : Int32) → rec9 (i + (6 : Int32)) land there near worn trial fits ways joined mcel mtint mcells_10003 mnear_10004 mthere_10005 mways mmore mthrown_10006 out_10001) ∧ (k10002 = (0 : Int32) → (((lg_cmp (out_10001 (0 : Int32).toNatClampNeg) r10007.toInt64) = (0 : Int32) → rec9 (i + (6 : Int32)) land there near worn trial fits ways joined mcel mtint mcells_10003 mnear_10004 mthere_10005 mways mmore mthrown_10006 out_10001) ∧ (¬ (lg_cmp (out_10001 (0 : Int32).toNatClampNeg) r10007.toInt64) = (0 : Int32) → False))))) ∧ (¬ r10008 = k10002 → False)))))
def q_L_case10 (L : Nat) (xs : Nat → Int32) (rec9 : Int32 → (Nat → Int64) → Int32 → (Nat → Int32) → (Nat → Int32) → (Nat → Int32) → (Nat → Int32) → (Nat → Int64) → (Nat → Nat → Int32) → (Nat → Int32) → (Nat → Int32) → (Nat → Int64) → (Nat → Int32) → Int32 → (Nat → Int64) → (Nat → Int64) → Int32 → (Nat → Int64) → Prop) (i : Int32) (land : Nat → Int64) (there : Int32) (near : Nat → Int32) (worn : Nat → Int32) (trial : Nat → Int32) (fits : Nat → Int32) (ways : Nat → Int64) (joined : Nat → Nat → Int32) (mcel : Nat → Int32) (mtint : Nat → Int32) (mcells : Nat → Int64) (mnear : Nat → Int32) (mthere : Int32) (mways : Nat → Int64) (mmore : Nat → Int64) (mthrown : Int32) (out : Nat → Int64) : Prop := xin (i + (1 : Int32)) L = true ∧ q_L_enclosed (xs (i + (1 : Int32)).toNatClampNeg) land out (fun (k11002 : Int32) (out_11001 : Nat → Int64) => xin (i + (1 : Int32)) L = true ∧ q_X1_enclosed (xs (i + (1 : Int32)).toNatClampNeg) mcel mcells mnear (fun (r11007 : Int32) (mcells_11003 : Nat → Int64) (mnear_11004 : Nat → Int32) (mthere_11005 : Int32) (mthrown_11006 : Int32) => q_X1_thrown mthrown_11006 (fun (r11008 : Int32)  => ((r11008 = k11002 → ((¬ k11002 = (0 : Int32) → rec9 (i + (6 : Int32)) land there near worn trial fits ways joined mcel mtint mcells_11003 mnear_11004 mthere_11005 mways mmore mthrown_11006 out_11001) ∧ (k11002 = (0 : Int32) → (((lg_cmp (out_11001 (0 : Int32).toNatClampNeg) r11007.toInt64) = (0 : Int32) → rec9 (i + (6 : Int32)) land there near worn trial fits ways joined mcel mtint mcells_11003 mnear_11004 mthere_11005 mways mmore mthrown_11006 out_11001) ∧ (¬ (lg_cmp (out_11001 (0 : Int32).toNatClampNeg) r11007.toInt64) = (0 : Int32) → False))))) ∧ (¬ r11008 = k11002 → False)))))
def q_L_case11 (L : Nat) (xs : Nat → Int32) (rec9 : Int32 → (Nat → Int64) → Int32 → (Nat → Int32) → (Nat → Int32) → (Nat → Int32) → (Nat → Int32) → (Nat → Int64) → (Nat → Nat → Int32) → (Nat → Int32) → (Nat → Int32) → (Nat → Int64) → (Nat → Int32) → Int32 → (Nat → Int64) → (Nat → Int64) → Int32 → (Nat → Int64) → Prop) (i : Int32) (land : Nat → Int64) (there : Int32) (near : Nat → Int32) (worn : Nat → Int32) (trial : Nat → Int32) (fits : Nat → Int32) (ways : Nat → Int64) (joined : Nat → Nat → Int32) (mcel : Nat → Int32) (mtint : Nat → Int32) (mcells : Nat → Int64) (mnear : Nat → Int32) (mthere : Int32) (mways : Nat → Int64) (mmore : Nat → Int64) (mthrown : Int32) (out : Nat → Int64) : Prop := q_X0_allNeighbours there near fits (fun (r12002 : Int32) (fits_12001 : Nat → Int32) => q_X1_allNeighbours mcel mcells mnear (fun (r12007 : Int32) (mcells_12003 : Nat → Int64) (mnear_12004 : Nat → Int32) (mthere_12005 : Int32) (mthrown_12006 : Int32) => ((r12002 = r12007 → rec9 (i + (6 : Int32)) land there near worn trial fits_12001 ways joined mcel mtint mcells_12003 mnear_12004 mthere_12005 mways mmore mthrown_12006 out) ∧ (¬ r12002 = r12007 → False))))
def q_L_case12 (L : Nat) (xs : Nat → Int32) (rec9 : Int32 → (Nat → Int64) → Int32 → (Nat → Int32) → (Nat → Int32) → (Nat → Int32) → (Nat → Int32) → (Nat → Int64) → (Nat → Nat → Int32) → (Nat → Int32) → (Nat → Int32) → (Nat → Int64) → (Nat → Int32) → Int32 → (Nat → Int64) → (Nat → Int64) → Int32 → (Nat → Int64) → Prop) (i : Int32) (land : Nat → Int64) (there : Int32) (near : Nat → Int32) (worn : Nat → Int32) (trial : Nat → Int32) (fits : Nat → Int32) (ways : Nat → Int64) (joined : Nat → Nat → Int32) (mcel : Nat → Int32) (mtint : Nat → Int32) (mcells : Nat → Int64) (mnear : Nat → Int32) (mthere : Int32) (mways : Nat → Int64) (mmore : Nat → Int64) (mthrown : Int32) (out : Nat → Int64) : Prop := xin (i + (1 : Int32)) L = true ∧ xin (i + (2 : Int32)) L = true ∧ q_L_tint (xs (i + (1 : Int32)).toNatClampNeg) (xs (i + (2 : Int32)).toNatClampNeg) worn out (fun (k13003 : Int32) (worn_13001 : Nat → Int32) (out_13002 : Nat → Int64) => xin (i + (1 : Int32)) L = true ∧ xin (i + (2 : Int32)) L = true ∧ q_X1_tint (xs (i + (1 : Int32)).toNatClampNeg) (xs (i + (2 : Int32)).toNatClampNeg) mtint (fun (r13006 : Int32) (mtint_13004 : Nat → Int32) (mthrown_13005 : Int32) => q_X1_thrown mthrown_13005 (fun (r13007 : Int32)  => ((r13007 = k13003 → ((¬ k13003 = (0 : Int32) → rec9 (i + (6 : Int32)) land there near worn_13001 trial fits ways joined mcel mtint_13004 mcells mnear mthere mways mmore mthrown_13005 out_13002) ∧ (k13003 = (0 : Int32) → (((lg_cmp (out_13002 (0 : Int32).toNatClampNeg) r13006.toInt64) = (0 : Int32) → rec9 (i + (6 : Int32)) land there near worn_13001 trial fits ways joined mcel mtint_13004 mcells mnear mthere mways mmore mthrown_13005 out_13002) ∧ (¬ (lg_cmp (out_13002 (0 : Int32).toNatClampNeg) r13006.toInt64) = (0 : Int32) → False))))) ∧ (¬ r13007 = k13003 → False)))))
def q_L_case13 (L : Nat) (xs : Nat → Int32) (rec9 : Int32 → (Nat → Int64) → Int32 → (Nat → Int32) → (Nat → Int32) → (Nat → Int32) → (Nat → Int32) → (Nat → Int64) → (Nat → Nat → Int32) → (Nat → Int32) → (Nat → Int32) → (Nat → Int64) → (Nat → Int32) → Int32 → (Nat → Int64) → (Nat → Int64) → Int32 → (Nat → Int64) → Prop) (i : Int32) (land : Nat → Int64) (there : Int32) (near : Nat → Int32) (worn : Nat → Int32) (trial : Nat → Int32) (fits : Nat → Int32) (ways : Nat → Int64) (joined : Nat → Nat → Int32) (mcel : Nat → Int32) (mtint : Nat → Int32) (mcells : Nat → Int64) (mnear : Nat → Int32) (mthere : Int32) (mways : Nat → Int64) (mmore : Nat → Int64) (mthrown : Int32) (out : Nat → Int64) : Prop := xin (i + (1 : Int32)) L = true ∧ q_L_tintOf (xs (i + (1 : Int32)).toNatClampNeg) worn out (fun (k14002 : Int32) (out_14001 : Nat → Int64) => xin (i + (1 : Int32)) L = true ∧ q_X1_tintOf (xs (i + (1 : Int32)).toNatClampNeg) mtint (fun (r14004 : Int32) (mthrown_14003 : Int32) => q_X1_thrown mthrown_14003 (fun (r14005 : Int32)  => ((r14005 = k14002 → ((¬ k14002 = (0 : Int32) → rec9 (i + (6 : Int32)) land there near worn trial fits ways joined mcel mtint mcells mnear mthere mways mmore mthrown_14003 out_14001) ∧ (k14002 = (0 : Int32) → (((lg_cmp (out_14001 (0 : Int32).toNatClampNeg) r14004.toInt64) = (0 : Int32) → rec9 (i + (6 : Int32)) land there near worn trial fits ways joined mcel mtint mcells mnear mthere mways mmore mthrown_14003 out_14001) ∧ (¬ (lg_cmp (out_14001 (0 : Int32).toNatClampNeg) r14004.toInt64) = (0 : Int32) → False))))) ∧ (¬ r14005 = k14002 → False)))))
def q_L_case14 (L : Nat) (xs : Nat → Int32) (rec9 : Int32 → (Nat → Int64) → Int32 → (Nat → Int32) → (Nat → Int32) → (Nat → Int32) → (Nat → Int32) → (Nat → Int64) → (Nat → Nat → Int32) → (Nat → Int32) → (Nat → Int32) → (Nat → Int64) → (Nat → Int32) → Int32 → (Nat → Int64) → (Nat → Int64) → Int32 → (Nat → Int64) → Prop) (i : Int32) (land : Nat → Int64) (there : Int32) (near : Nat → Int32) (worn : Nat → Int32) (trial : Nat → Int32) (fits : Nat → Int32) (ways : Nat → Int64) (joined : Nat → Nat → Int32) (mcel : Nat → Int32) (mtint : Nat → Int32) (mcells : Nat → Int64) (mnear : Nat → Int32) (mthere : Int32) (mways : Nat → Int64) (mmore : Nat → Int64) (mthrown : Int32) (out : Nat → Int64) : Prop := q_X0_conflicts near worn (fun (r15001 : Int32)  => q_X1_conflicts mcel mtint mcells mnear (fun (r15006 : Int32) (mcells_15002 : Nat → Int64) (mnear_15003 : Nat → Int32) (mthere_15004 : Int32) (mthrown_15005 : Int32) => ((r15001 = r15006 → rec9 (i + (6 : Int32)) land there near worn trial fits ways joined mcel mtint mcells_15002 mnear_15003 mthere_15004 mways mmore mthrown_15005 out) ∧ (¬ r15001 = r15006 → False))))
def q_L_case15 (L : Nat) (xs : Nat → Int32) (rec9 : Int32 → (Nat → Int64) → Int32 → (Nat → Int32) → (Nat → Int32) → (Nat → Int32) → (Nat → Int32) → (Nat → Int64) → (Nat → Nat → Int32) → (Nat → Int32) → (Nat → Int32) → (Nat → Int64) → (Nat → Int32) → Int32 → (Nat → Int64) → (Nat → Int64) → Int32 → (Nat → Int64) → Prop) (i : Int32) (land : Nat → Int64) (there : Int32) (near : Nat → Int32) (worn : Nat → Int32) (trial : Nat → Int32) (fits : Nat → Int32) (ways : Nat → Int64) (joined : Nat → Nat → Int32) (mcel : Nat → Int32) (mtint : Nat → Int32) (mcells : Nat → Int64) (mnear : Nat → Int32) (mthere : Int32) (mways : Nat → Int64) (mmore : Nat → Int64) (mthrown : Int32) (out : Nat → Int64) : Prop := q_X0_isTinted there near worn (fun (r16001 : Int32)  => q_X1_isTinted mcel mtint mcells mnear (fun (r16006 : Int32) (mcells_16002 : Nat → Int64) (mnear_16003 : Nat → Int32) (mthere_16004 : Int32) (mthrown_16005 : Int32) => ((r16001 = r16006 → rec9 (i + (6 : Int32)) land there near worn trial fits ways joined mcel mtint mcells_16002 mnear_16003 mthere_16004 mways mmore mthrown_16005 out) ∧ (¬ r16001 = r16006 → False))))
def q_L_case16 (L : Nat) (xs : Nat → Int32) (rec9 : Int32 → (Nat → Int64) → Int32 → (Nat → Int32) → (Nat → Int32) → (Nat → Int32) → (Nat → Int32) → (Nat → Int64) → (Nat → Nat → Int32) → (Nat → Int32) → (Nat → Int32) → (Nat → Int64) → (Nat → Int32) → Int32 → (Nat → Int64) → (Nat → Int64) → Int32 → (Nat → Int64) → Prop) (i : Int32) (land : Nat → Int64) (there : Int32) (near : Nat → Int32) (worn : Nat → Int32) (trial : Nat → Int32) (fits : Nat → Int32) (ways : Nat → Int64) (joined : Nat → Nat → Int32) (mcel : Nat → Int32) (mtint : Nat → Int32) (mcells : Nat → Int64) (mnear : Nat → Int32) (mthere : Int32) (mways : Nat → Int64) (mmore : Nat → Int64) (mthrown : Int32) (out : Nat → Int64) : Prop := xin (i + (1 : Int32)) L = true ∧ q_L_leastFree (xs (i + (1 : Int32)).toNatClampNeg) near worn out (fun (k17002 : Int32) (out_17001 : Nat → Int64) => xin (i + (1 : Int32)) L = true ∧ q_X1_leastFree (xs (i + (1 : Int32)).toNatClampNeg) mcel mtint mcells mnear (fun (r17007 : Int32) (mcells_17003 : Nat → Int64) (mnear_17004 : Nat → Int32) (mthere_17005 : Int32) (mthrown_17006 : Int32) => q_X1_thrown mthrown_17006 (fun (r17008 : Int32)  => ((r17008 = k17002 → ((¬ k17002 = (0 : Int32) → rec9 (i + (6 : Int32)) land there near worn trial fits ways joined mcel mtint mcells_17003 mnear_17004 mthere_17005 mways mmore mthrown_17006 out_17001) ∧ (k17002 = (0 : Int32) → (((lg_cmp (out_17001 (0 : Int32).toNatClampNeg) r17007.toInt64) = (0 : Int32) → rec9 (i + (6 : Int32)) land there near worn trial fits ways joined mcel mtint mcells_17003 mnear_17004 mthere_17005 mways mmore mthrown_17006 out_17001) ∧ (¬ (lg_cmp (out_17001 (0 : Int32).toNatClampNeg) r17007.toInt64) = (0 : Int32) → False))))) ∧ (¬ r17008 = k17002 → False)))))
def q_L_case17 (L : Nat) (xs : Nat → Int32) (rec9 : Int32 → (Nat → Int64) → Int32 → (Nat → Int32) → (Nat → Int32) → (Nat → Int32) → (Nat → Int32) → (Nat → Int64) → (Nat → Nat → Int32) → (Nat → Int32) → (Nat → Int32) → (Nat → Int64) → (Nat → Int32) → Int32 → (Nat → Int64) → (Nat → Int64) → Int32 → (Nat → Int64) → Prop) (i : Int32) (land : Nat → Int64) (there : Int32) (near : Nat → Int32) (worn : Nat → Int32) (trial : Nat → Int32) (fits : Nat → Int32) (ways : Nat → Int64) (joined : Nat → Nat → Int32) (mcel : Nat → Int32) (mtint : Nat → Int32) (mcells : Nat → Int64) (mnear : Nat → Int32) (mthere : Int32) (mways : Nat → Int64) (mmore : Nat → Int64) (mthrown : Int32) (out : Nat → Int64) : Prop := xin (i + (1 : Int32)) L = true ∧ xin (i + (2 : Int32)) L = true ∧ q_L_chain (xs (i + (1 : Int32)).toNatClampNeg) (xs (i + (2 : Int32)).toNatClampNeg) there near worn out (fun (k18002 : Int32) (out_18001 : Nat → Int64) => xin (i + (1 : Int32)) L = true ∧ xin (i + (2 : Int32)) L = true ∧ q_X1_chain (xs (i + (1 : Int32)).toNatClampNeg) (xs (i + (2 : Int32)).toNatClampNeg) mcel mtint mcells mnear (fun (r18007 : Int32) (mcells_18003 : Nat → Int64) (mnear_18004 : Nat → Int32) (mthere_18005 : Int32) (mthrown_18006 : Int32) => q_X1_thrown mthrown_18006 (fun (r18008 : Int32)  => ((r18008 = k18002 → ((¬ k18002 = (0 : Int32) → rec9 (i + (6 : Int32)) land there near worn trial fits ways joined mcel mtint mcells_18003 mnear_18004 mthere_18005 mways mmore mthrown_18006 out_18001) ∧ (k18002 = (0 : Int32) → (((lg_cmp (out_18001 (0 : Int32).toNatClampNeg) r18007.toInt64) = (0 : Int32) → rec9 (i + (6 : Int32)) land there near worn trial fits ways joined mcel mtint mcells_18003 mnear_18004 mthere_18005 mways mmore mthrown_18006 out_18001) ∧ (¬ (lg_cmp (out_18001 (0 : Int32).toNatClampNeg) r18007.toInt64) = (0 : Int32) → False))))) ∧ (¬ r18008 = k18002 → False)))))
def q_L_case18 (L : Nat) (xs : Nat → Int32) (rec9 : Int32 → (Nat → Int64) → Int32 → (Nat → Int32) → (Nat → Int32) → (Nat → Int32) → (Nat → Int32) → (Nat → Int64) → (Nat → Nat → Int32) → (Nat → Int32) → (Nat → Int32) → (Nat → Int64) → (Nat → Int32) → Int32 → (Nat → Int64) → (Nat → Int64) → Int32 → (Nat → Int64) → Prop) (i : Int32) (land : Nat → Int64) (there : Int32) (near : Nat → Int32) (worn : Nat → Int32) (trial : Nat → Int32) (fits : Nat → Int32) (ways : Nat → Int64) (joined : Nat → Nat → Int32) (mcel : Nat → Int32) (mtint : Nat → Int32) (mcells : Nat → Int64) (mnear : Nat → Int32) (mthere : Int32) (mways : Nat → Int64) (mmore : Nat → Int64) (mthrown : Int32) (out : Nat → Int64) : Prop := xin (i + (1 : Int32)) L = true ∧ xin (i + (2 : Int32)) L = true ∧ q_L_exchange (xs (i + (1 : Int32)).toNatClampNeg) (xs (i + (2 : Int32)).toNatClampNeg) there near worn out (fun (k19003 : Int32) (worn_19001 : Nat → Int32) (out_19002 : Nat → Int64) => xin (i + (1 : Int32)) L = true ∧ xin (i + (2 : Int32)) L = true ∧ q_X1_exchange (xs (i + (1 : Int32)).toNatClampNeg) (xs (i + (2 : Int32)).toNatClampNeg) mcel mtint mcells mnear (fun (r19009 : Int32) (mtint_19004 : Nat → Int32) (mcells_19005 : Nat → Int64) (mnear_19006 : Nat → Int32) (mthere_19007 : Int32) (mthrown_19008 : Int32) => q_X1_thrown mthrown_19008 (fun (r19010 : Int32)  => ((r19010 = k19003 → ((¬ k19003 = (0 : Int32) → rec9 (i + (6 : Int32)) land there near worn_19001 trial fits ways joined mcel mtint_19004 mcells_19005 mnear_19006 mthere_19007 mways mmore mthrown_19008 out_19002) ∧ (k19003 = (0 : Int32) → (((lg_cmp (out_19002 (0 : Int32).toNatClampNeg) r19009.toInt64) = (0 : Int32) → rec9 (i + (6 : Int32)) land there near worn_19001 trial fits ways joined mcel mtint_19004 mcells_19005 mnear_19006 mthere_19007 mways mmore mthrown_19008 out_19002) ∧ (¬ (lg_cmp (out_19002 (0 : Int32).toNatClampNeg) r19009.toInt64) = (0 : Int32) → False))))) ∧ (¬ r19010 = k19003 → False)))))
def q_L_case19 (L : Nat) (xs : Nat → Int32) (rec9 : Int32 → (Nat → Int64) → Int32 → (Nat → Int32) → (Nat → Int32) → (Nat → Int32) → (Nat → Int32) → (Nat → Int64) → (Nat → Nat → Int32) → (Nat → Int32) → (Nat → Int32) → (Nat → Int64) → (Nat → Int32) → Int32 → (Nat → Int64) → (Nat → Int64) → Int32 → (Nat → Int64) → Prop) (i : Int32) (land : Nat → Int64) (there : Int32) (near : Nat → Int32) (worn : Nat → Int32) (trial : Nat → Int32) (fits : Nat → Int32) (ways : Nat → Int64) (joined : Nat → Nat → Int32) (mcel : Nat → Int32) (mtint : Nat → Int32) (mcells : Nat → Int64) (mnear : Nat → Int32) (mthere : Int32) (mways : Nat → Int64) (mmore : Nat → Int64) (mthrown : Int32) (out : Nat → Int64) : Prop := xin (i + (1 : Int32)) L = true ∧ (((xs (i + (1 : Int32)).toNatClampNeg) = (0 : Int32) → q_X0_tintInOrder (0 : Int32) there near worn (fun (r20002 : Int32) (worn_20001 : Nat → Int32) => xin (i + (1 : Int32)) L = true ∧ (((xs (i + (1 : Int32)).toNatClampNeg) = (0 : Int32) → q_X1_tintInOrder (0 : Int32) mcel mtint mcells mnear (fun (r20008 : Int32) (mtint_20003 : Nat → Int32) (mcells_20004 : Nat → Int64) (mnear_20005 : Nat → Int32) (mthere_20006 : Int32) (mthrown_20007 : Int32) => ((r20002 = r20008 → rec9 (i + (6 : Int32)) land there near worn_20001 trial fits ways joined mcel mtint_20003 mcells_20004 mnear_20005 mthere_20006 mways mmore mthrown_20007 out) ∧ (¬ r20002 = r20008 → False)))) ∧ (¬ (xs (i + (1 : Int32)).toNatClampNeg) = (0 : Int32) → q_X1_tintInOrder (1 : Int32) mcel mtint mcells mnear (fun (r20014 : Int32) (mtint_20009 : Nat → Int32) (mcells_20010 : Nat → Int64) (mnear_20011 : Nat → Int32) (mthere_20012 : Int32) (mthrown_20013 : Int32) => ((r20002 = r20014 → rec9 (i + (6 : Int32)) land there near worn_20001 trial fits ways joined mcel mtint_20009 mcells_20010 mnear_20011 mthere_20012 mways mmore mthrown_20013 out) ∧ (¬ r20002 = r20014 → False))))))) ∧ (¬ (xs (i + (1 : Int32)).toNatClampNeg) = (0 : Int32) → q_X0_tintInOrder (1 : Int32) there near worn (fun (r20016 : Int32) (worn_20015 : Nat → Int32) => xin (i + (1 : Int32)) L = true ∧ (((xs (i + (1 : Int32)).toNatClampNeg) = (0 : Int32) → q_X1_tintInOrder (0 : Int32) mcel mtint mcells mnear (fun (r20022 : Int32) (mtint_20017 : Nat → Int32) (mcells_20018 : Nat → Int64) (mnear_20019 : Nat → Int32) (mthere_20020 : Int32) (mthrown_20021 : Int32) => ((r20016 = r20022 → rec9 (i + (6 : Int32)) land there near worn_20015 trial fits ways joined mcel mtint_20017 mcells_20018 mnear_20019 mthere_20020 mways mmore mthrown_20021 out) ∧ (¬ r20016 = r20022 → False)))) ∧ (¬ (xs (i + (1 : Int32)).toNatClampNeg) = (0 : Int32) → q_X1_tintInOrder (1 : Int32) mcel mtint mcells mnear (fun (r20028 : Int32) (mtint_20023 : Nat → Int32) (mcells_20024 : Nat → Int64) (mnear_20025 : Nat → Int32) (mthere_20026 : Int32) (mthrown_20027 : Int32) => ((r20016 = r20028 → rec9 (i + (6 : Int32)) land there near worn_20015 trial fits ways joined mcel mtint_20023 mcells_20024 mnear_20025 mthere_20026 mways mmore mthrown_20027 out) ∧ (¬ r20016 = r20028 → False))))))))
def q_L_case20 (L : Nat) (xs : Nat → Int32) (rec9 : Int32 → (Nat → Int64) → Int32 → (Nat → Int32) → (Nat → Int32) → (Nat → Int32) → (Nat → Int32) → (Nat → Int64) → (Nat → Nat → Int32) → (Nat → Int32) → (Nat → Int32) → (Nat → Int64) → (Nat → Int32) → Int32 → (Nat → Int64) → (Nat → Int64) → Int32 → (Nat → Int64) → Prop) (i : Int32) (land : Nat → Int64) (there : Int32) (near : Nat → Int32) (worn : Nat → Int32) (trial : Nat → Int32) (fits : Nat → Int32) (ways : Nat → Int64) (joined : Nat → Nat → Int32) (mcel : Nat → Int32) (mtint : Nat → Int32) (mcells : Nat → Int64) (mnear : Nat → Int32) (mthere : Int32) (mways : Nat → Int64) (mmore : Nat → Int64) (mthrown : Int32) (out : Nat → Int64) : Prop := q_X0_fewestTints there near trial (fun (r21002 : Int32) (trial_21001 : Nat → Int32) => q_X1_fewestTints mcel mcells mnear mways mmore (fun (r21009 : Int32) (mcells_21003 : Nat → Int64) (mnear_21004 : Nat → Int32) (mthere_21005 : Int32) (mways_21006 : Nat → Int64) (mmore_21007 : Nat → Int64) (mthrown_21008 : Int32) => ((r21002 = r21009 → rec9 (i + (6 : Int32)) land there near worn trial_21001 fits ways joined mcel mtint mcells_21003 mnear_21004 mthere_21005 mways_21006 mmore_21007 mthrown_21008 out) ∧ (¬ r21002 = r21009 → False))))
def q_L_case21 (L : Nat) (xs : Nat → Int32) (rec9 : Int32 → (Nat → Int64) → Int32 → (Nat → Int32) → (Nat → Int32) → (Nat → Int32) → (Nat → Int32) → (Nat → Int64) → (Nat → Nat → Int32) → (Nat → Int32) → (Nat → Int32) → (Nat → Int64) → (Nat → Int32) → Int32 → (Nat → Int64) → (Nat → Int64) → Int32 → (Nat → Int64) → Prop) (i : Int32) (land : Nat → Int64) (there : Int32) (near : Nat → Int32) (worn : Nat → Int32) (trial : Nat → Int32) (fits : Nat → Int32) (ways : Nat → Int64) (joined : Nat → Nat → Int32) (mcel : Nat → Int32) (mtint : Nat → Int32) (mcells : Nat → Int64) (mnear : Nat → Int32) (mthere : Int32) (mways : Nat → Int64) (mmore : Nat → Int64) (mthrown : Int32) (out : Nat → Int64) : Prop := q_X0_tintWithFewest there near worn trial (fun (r22003 : Int32) (worn_22001 : Nat → Int32) (trial_22002 : Nat → Int32) => q_X1_tintWithFewest mcel mtint mcells mnear mways mmore (fun (r22011 : Int32) (mtint_22004 : Nat → Int32) (mcells_22005 : Nat → Int64) (mnear_22006 : Nat → Int32) (mthere_22007 : Int32) (mways_22008 : Nat → Int64) (mmore_22009 : Nat → Int64) (mthrown_22010 : Int32) => ((r22003 = r22011 → rec9 (i + (6 : Int32)) land there near worn_22001 trial_22002 fits ways joined mcel mtint_22004 mcells_22005 mnear_22006 mthere_22007 mways_22008 mmore_22009 mthrown_22010 out) ∧ (¬ r22003 = r22011 → False))))
def q_L_case22 (L : Nat) (xs : Nat → Int32) (rec9 : Int32 → (Nat → Int64) → Int32 → (Nat → Int32) → (Nat → Int32) → (Nat → Int32) → (Nat → Int32) → (Nat → Int64) → (Nat → Nat → Int32) → (Nat → Int32) → (Nat → Int32) → (Nat → Int64) → (Nat → Int32) → Int32 → (Nat → Int64) → (Nat → Int64) → Int32 → (Nat → Int64) → Prop) (i : Int32) (land : Nat → Int64) (there : Int32) (near : Nat → Int32) (worn : Nat → Int32) (trial : Nat → Int32) (fits : Nat → Int32) (ways : Nat → Int64) (joined : Nat → Nat → Int32) (mcel : Nat → Int32) (mtint : Nat → Int32) (mcells : Nat → Int64) (mnear : Nat → Int32) (mthere : Int32) (mways : Nat → Int64) (mmore : Nat → Int64) (mthrown : Int32) (out : Nat → Int64) : Prop := xin (i + (1 : Int32)) L = true ∧ q_L_tintings (xs (i + (1 : Int32)).toNatClampNeg) there near fits ways out (fun (k23004 : Int32) (fits_23001 : Nat → Int32) (ways_23002 : Nat → Int64) (out_23003 : Nat → Int64) => xin (i + (1 : Int32)) L = true ∧ q_X1_tintings (xs (i + (1 : Int32)).toNatClampNeg) mcel mcells mnear mthere mways mmore (fun (r23011 : Int64) (mcells_23005 : Nat → Int64) (mnear_23006 : Nat → Int32) (mthere_23007 : Int32) (mways_23008 : Nat → Int64) (mmore_23009 : Nat → Int64) (mthrown_23010 : Int32) => q_X1_thrown mthrown_23010 (fun (r23012 : Int32)  => ((r23012 = k23004 → ((¬ k23004 = (0 : Int32) → rec9 (i + (6 : Int32)) land there near worn trial fits_23001 ways_23002 joined mcel mtint mcells_23005 mnear_23006 mthere_23007 mways_23008 mmore_23009 mthrown_23010 out_23003) ∧ (k23004 = (0 : Int32) → (((lg_cmp (out_23003 (0 : Int32).toNatClampNeg) r23011) = (0 : Int32) → rec9 (i + (6 : Int32)) land there near worn trial fits_23001 ways_23002 joined mcel mtint mcells_23005 mnear_23006 mthere_23007 mways_23008 mmore_23009 mthrown_23010 out_23003) ∧ (¬ (lg_cmp (out_23003 (0 : Int32).toNatClampNeg) r23011) = (0 : Int32) → False))))) ∧ (¬ r23012 = k23004 → False)))))
def q_L_case23 (L : Nat) (xs : Nat → Int32) (rec9 : Int32 → (Nat → Int64) → Int32 → (Nat → Int32) → (Nat → Int32) → (Nat → Int32) → (Nat → Int32) → (Nat → Int64) → (Nat → Nat → Int32) → (Nat → Int32) → (Nat → Int32) → (Nat → Int64) → (Nat → Int32) → Int32 → (Nat → Int64) → (Nat → Int64) → Int32 → (Nat → Int64) → Prop) (i : Int32) (land : Nat → Int64) (there : Int32) (near : Nat → Int32) (worn : Nat → Int32) (trial : Nat → Int32) (fits : Nat → Int32) (ways : Nat → Int64) (joined : Nat → Nat → Int32) (mcel : Nat → Int32) (mtint : Nat → Int32) (mcells : Nat → Int64) (mnear : Nat → Int32) (mthere : Int32) (mways : Nat → Int64) (mmore : Nat → Int64) (mthrown : Int32) (out : Nat → Int64) : Prop := xin (i + (1 : Int32)) L = true ∧ q_L_tintingsByPairs (xs (i + (1 : Int32)).toNatClampNeg) near there joined out (fun (k24003 : Int32) (joined_24001 : Nat → Nat → Int32) (out_24002 : Nat → Int64) => xin (i + (1 : Int32)) L = true ∧ q_X1_tintingsByPairs (xs (i + (1 : Int32)).toNatClampNeg) mcel mcells mnear mthere mways mmore (fun (r24010 : Int64) (mcells_24004 : Nat → Int64) (mnear_24005 : Nat → Int32) (mthere_24006 : Int32) (mways_24007 : Nat → Int64) (mmore_24008 : Nat → Int64) (mthrown_24009 : Int32) => q_X1_thrown mthrown_24009 (fun (r24011 : Int32)  => ((r24011 = k24003 → ((¬ k24003 = (0 : Int32) → rec9 (i + (6 : Int32)) land there near worn trial fits ways joined_24001 mcel mtint mcells_24004 mnear_24005 mthere_24006 mways_24007 mmore_24008 mthrown_24009 out_24002) ∧ (k24003 = (0 : Int32) → (((lg_cmp (out_24002 (0 : Int32).toNatClampNeg) r24010) = (0 : Int32) → rec9 (i + (6 : Int32)) land there near worn trial fits ways joined_24001 mcel mtint mcells_24004 mnear_24005 mthere_24006 mways_24007 mmore_24008 mthrown_24009 out_24002) ∧ (¬ (lg_cmp (out_24002 (0 : Int32).toNatClampNeg) r24010) = (0 : Int32) → False))))) ∧ (¬ r24011 = k24003 → False)))))
def q_L_case24 (L : Nat) (xs : Nat → Int32) (rec9 : Int32 → (Nat → Int64) → Int32 → (Nat → Int32) → (Nat → Int32) → (Nat → Int32) → (Nat → Int32) → (Nat → Int64) → (Nat → Nat → Int32) → (Nat → Int32) → (Nat → Int32) → (Nat → Int64) → (Nat → Int32) → Int32 → (Nat → Int64) → (Nat → Int64) → Int32 → (Nat → Int64) → Prop) (i : Int32) (land : Nat → Int64) (there : Int32) (near : Nat → Int32) (worn : Nat → Int32) (trial : Nat → Int32) (fits : Nat → Int32) (ways : Nat → Int64) (joined : Nat → Nat → Int32) (mcel : Nat → Int32) (mtint : Nat → Int32) (mcells : Nat → Int64) (mnear : Nat → Int32) (mthere : Int32) (mways : Nat → Int64) (mmore : Nat → Int64) (mthrown : Int32) (out : Nat → Int64) : Prop := rec9 (i + (6 : Int32)) land there near worn trial fits ways joined mcel mtint mcells mnear mthere mways mmore mthrown out
def q_L_law_L23 (L : Nat) (xs : Nat → Int32) : Nat → Int32 → (Nat → Int64) → Int32 → (Nat → Int32) → (Nat → Int32) → (Nat → Int32) → (Nat → Int32) → (Nat → Int64) → (Nat → Nat → Int32) → (Nat → Int32) → (Nat → Int32) → (Nat → Int64) → (Nat → Int32) → Int32 → (Nat → Int64) → (Nat → Int64) → Int32 → (Nat → Int64) → Prop
  | 0, _, _, _, _, _, _, _, _, _, _, _, _, _, _, _, _, _, _ => False
  | n + 1, i, land, there, near, worn, trial, fits, ways, joined, mcel, mtint, mcells, mnear, mthere, mways, mmore, mthrown, out => (nI L - 6 < i → True) ∧ (¬ nI L - 6 < i → xin i L = true ∧ (((xs i.toNatClampNeg) &&& (31 : Int32)) = nI 0 → q_L_case0 L xs (q_L_law_L23 L xs n) i land there near worn trial fits ways joined mcel mtint mcells mnear mthere mways mmore mthrown out) ∧ (((xs i.toNatClampNeg) &&& (31 : Int32)) = nI 1 → q_L_case1 L xs (q_L_law_L23 L xs n) i land there near worn trial fits ways joined mcel mtint mcells mnear mthere mways mmore mthrown out) ∧ (((xs i.toNatClampNeg) &&& (31 : Int32)) = nI 2 → q_L_case2 L xs (q_L_law_L23 L xs n) i land there near worn trial fits ways joined mcel mtint mcells mnear mthere mways mmore mthrown out) ∧ (((xs i.toNatClampNeg) &&& (31 : Int32)) = nI 3 → q_L_case3 L xs (q_L_law_L23 L xs n) i land there near worn trial fits ways joined mcel mtint mcells mnear mthere mways mmore mthrown out) ∧ (((xs i.toNatClampNeg) &&& (31 : Int32)) = nI 4 → q_L_case4 L xs (q_L_law_L23 L xs n) i land there near worn trial fits ways joined mcel mtint mcells mnear mthere mways mmore mthrown out) ∧ (((xs i.toNatClampNeg) &&& (31 : Int32)) = nI 5 → q_L_case5 L xs (q_L_law_L23 L xs n) i land there near worn trial fits ways joined mcel mtint mcells mnear mthere mways mmore mthrown out) ∧ (((xs i.toNatClampNeg) &&& (31 : Int32)) = nI 6 → q_L_case6 L xs (q_L_law_L23 L xs n) i land there near worn trial fits ways joined mcel mtint mcells mnear mthere mways mmore mthrown out) ∧ (((xs i.toNatClampNeg) &&& (31 : Int32)) = nI 7 → q_L_case7 L xs (q_L_law_L23 L xs n) i land there near worn trial fits ways joined mcel mtint mcells mnear mthere mways mmore mthrown out) ∧ (((xs i.toNatClampNeg) &&& (31 : Int32)) = nI 8 → q_L_case8 L xs (q_L_law_L23 L xs n) i land there near worn trial fits ways joined mcel mtint mcells mnear mthere mways mmore mthrown out) ∧ (((xs i.toNatClampNeg) &&& (31 : Int32)) = nI 9 → q_L_case9 L xs (q_L_law_L23 L xs n) i land there near worn trial fits ways joined mcel mtint mcells mnear mthere mways mmore mthrown out) ∧ (((xs i.toNatClampNeg) &&& (31 : Int32)) = nI 10 → q_L_case10 L xs (q_L_law_L23 L xs n) i land there near worn trial fits ways joined mcel mtint mcells mnear mthere mways mmore mthrown out) ∧ (((xs i.toNatClampNeg) &&& (31 : Int32)) = nI 11 → q_L_case11 L xs (q_L_law_L23 L xs n) i land there near worn trial fits ways joined mcel mtint mcells mnear mthere mways mmore mthrown out) ∧ (((xs i.toNatClampNeg) &&& (31 : Int32)) = nI 12 → q_L_case12 L xs (q_L_law_L23 L xs n) i land there near worn trial fits ways joined mcel mtint mcells mnear mthere mways mmore mthrown out) ∧ (((xs i.toNatClampNeg) &&& (31 : Int32)) = nI 13 → q_L_case13 L xs (q_L_law_L23 L xs n) i land there near worn trial fits ways joined mcel mtint mcells mnear mthere mways mmore mthrown out) ∧ (((xs i.toNatClampNeg) &&& (31 : Int32)) = nI 14 → q_L_case14 L xs (q_L_law_L23 L xs n) i land there near worn trial fits ways joined mcel mtint mcells mnear mthere mways mmore mthrown out) ∧ (((xs i.toNatClampNeg) &&& (31 : Int32)) = nI 15 → q_L_case15 L xs (q_L_law_L23 L xs n) i land there near worn trial fits ways joined mcel mtint mcells mnear mthere mways mmore mthrown out) ∧ (((xs i.toNatClampNeg) &&& (31 : Int32)) = nI 16 → q_L_case16 L xs (q_L_law_L23 L xs n) i land there near worn trial fits ways joined mcel mtint mcells mnear mthere mways mmore mthrown out) ∧ (((xs i.toNatClampNeg) &&& (31 : Int32)) = nI 17 → q_L_case17 L xs (q_L_law_L23 L xs n) i land there near worn trial fits ways joined mcel mtint mcells mnear mthere mways mmore mthrown out) ∧ (((xs i.toNatClampNeg) &&& (31 : Int32)) = nI 18 → q_L_case18 L xs (q_L_law_L23 L xs n) i land there near worn trial fits ways joined mcel mtint mcells mnear mthere mways mmore mthrown out) ∧ (((xs i.toNatClampNeg) &&& (31 : Int32)) = nI 19 → q_L_case19 L xs (q_L_law_L23 L xs n) i land there near worn trial fits ways joined mcel mtint mcells mnear mthere mways mmore mthrown out) ∧ (((xs i.toNatClampNeg) &&& (31 : Int32)) = nI 20 → q_L_case20 L xs (q_L_law_L23 L xs n) i land there near worn trial fits ways joined mcel mtint mcells mnear mthere mways mmore mthrown out) ∧ (((xs i.toNatClampNeg) &&& (31 : Int32)) = nI 21 → q_L_case21 L xs (q_L_law_L23 L xs n) i land there near worn trial fits ways joined mcel mtint mcells mnear mthere mways mmore mthrown out) ∧ (((xs i.toNatClampNeg) &&& (31 : Int32)) = nI 22 → q_L_case22 L xs (q_L_law_L23 L xs n) i land there near worn trial fits ways joined mcel mtint mcells mnear mthere mways mmore mthrown out) ∧ (((xs i.toNatClampNeg) &&& (31 : Int32)) = nI 23 → q_L_case23 L xs (q_L_law_L23 L xs n) i land there near worn trial fits ways joined mcel mtint mcells mnear mthere mways mmore mthrown out) ∧ ((∀ k : Nat, k ≤ 23 → ((xs i.toNatClampNeg) &&& (31 : Int32)) ≠ nI k) → q_L_case24 L xs (q_L_law_L23 L xs n) i land there near worn trial fits ways joined mcel mtint mcells mnear mthere mways mmore mthrown out))
set_option maxHeartbeats 4000000 in
set_option maxRecDepth 100000 in
theorem w_L_case0 {X : xC} {l : Launch} {D : va_G} {cI cJ cZ cA : ClassId} {V U : Nat → Nat} {ao b L : Nat} {xs : Nat → Int32} (hst : l.stackTraces = false) (K : xk X l room_1 D vwCl (xtys cI cJ cZ cA) cL_law RL wsL_law 8) (hE : xEx X RX0 [(61, "the block ends before it begins"), (180, "there is no such row or column"), (183, "there is no such country"), (185, "neither a country nor sea"), (187, "there is no such tint"), (189, "there are not so many tints"), (193, "the country is not there or has no tint")]) (hN : xno X) (hsc : xsc X b L xs) {n : Nat} (rec9 : Int32 → (Nat → Int64) → Int32 → (Nat → Int32) → (Nat → Int32) → (Nat → Int32) → (Nat → Int32) → (Nat → Int64) → (Nat → Nat → Int32) → (Nat → Int32) → (Nat → Int32) → (Nat → Int64) → (Nat → Int32) → Int32 → (Nat → Int64) → (Nat → Int64) → Int32 → (Nat → Int64) → Prop) (ih : ∀ (i : Int32) (land : Nat → Int64) (there : Int32) (near : Nat → Int32) (worn : Nat → Int32) (trial : Nat → Int32) (fits : Nat → Int32) (ways : Nat → Int64) (joined : Nat → Nat → Int32) (mcel : Nat → Int32) (mtint : Nat → Int32) (mcells : Nat → Int64) (mnear : Nat → Int32) (mthere : Int32) (mways : Nat → Int64) (mmore : Nat → Int64) (mthrown : Int32) (out : Nat → Int64) (c9 s9 : Nat), c9 + 4 * n ≤ 601024 → s9 + 24 * n ≤ 7293034 → rec9 i land there near worn trial fits ways joined mcel mtint mcells mnear mthere mways mmore mthrown out → xw X c9 s9 23 [(0, .ref b), (1, .ref (V 0)), (2, .ref (U 0)), (3, .ref ao), (4, .int i)] [] (wLaw cI cJ cZ cA V U land there near worn trial fits ways joined mcel mtint mcells mnear mthere mways mmore mthrown ao out)) (i : Int32) (land : Nat → Int64) (there : Int32) (near : Nat → Int32) (worn : Nat → Int32) (trial : Nat → Int32) (fits : Nat → Int32) (ways : Nat → Int64) (joined : Nat → Nat → Int32) (mcel : Nat → Int32) (mtint : Nat → Int32) (mcells : Nat → Int64) (mnear : Nat → Int32) (mthere : Int32) (mways : Nat → Int64) (mmore : Nat → Int64) (mthrown : Int32) (out : Nat → Int64) (c9 s9 : Nat) (hc : c9 + 4 * (n + 1) ≤ 601024) (hs : s9 + 24 * (n + 1) ≤ 7293034) (h : q_L_case0 L xs rec9 i land there near worn trial fits ways joined mcel mtint mcells mnear mthere mways mmore mthrown out) : xw X c9 s9 152 [(0, .ref b), (1, .ref (V 0)), (2, .ref (U 0)), (3, .ref ao), (4, .int i)] [] (wLaw cI cJ cZ cA V U land there near worn trial fits ways joined mcel mtint mcells mnear mthere mways mmore mthrown ao out) := by
  unfold q_L_case0 at h
  refine x_aload_n (pc := 152) K dL_law_152 1 rfl rfl ?_
  refine x_aload_n (pc := 153) K dL_law_153 0 rfl rfl ?_
  refine x_iload (pc := 154) K dL_law_154 4 rfl ?_
  refine x_iconst (v := 1) (pc := 156) K dL_law_156 (by decide) ?_
  refine x_iadd (pc := 157) K dL_law_157 ?_
  have g9 := h.1
  replace h := h.2
  refine x_sld (pc := 158) K hsc g9 dL_law_158 ?_
  clear g9
  refine x_aload_n (pc := 159) K dL_law_159 0 rfl rfl ?_
  refine x_iload (pc := 160) K dL_law_160 4 rfl ?_
  refine x_iconst (v := 2) (pc := 162) K dL_law_162 (by decide) ?_
  refine x_iadd (pc := 163) K dL_law_163 ?_
  have g9 := h.1
  replace h := h.2
  refine x_sld (pc := 164) K hsc g9 dL_law_164 ?_
  clear g9
  refine x_aload_n (pc := 165) K dL_law_165 0 rfl rfl ?_
  refine x_iload (pc := 166) K dL_law_166 4 rfl ?_
  refine x_iconst (v := 3) (pc := 168) K dL_law_168 (by decide) ?_
  refine x_iadd (pc := 169) K dL_law_169 ?_
  have g9 := h.1
  replace h := h.2
  refine x_sld (pc := 170) K hsc g9 dL_law_170 ?_
  clear g9
  refine x_aload_n (pc := 171) K dL_law_171 3 rfl rfl ?_
  refine x_hcallS (pc := 172) (n := 5) K hE hN (by decide) (c_L_paint l D cI cJ cZ cA hst V ao (xs (i + (1 : Int32)).toNatClampNeg) (xs (i + (2 : Int32)).toNatClampNeg) (xs (i + (3 : Int32)).toNatClampNeg) land there near worn trial fits ways joined out _ h) rfl rfl gL_law_L_paint (hh := [(0, 12, 15, 13), (0, 12, 19, 15)]) rfl (by decide +kernel) ⟨Nat.le_of_ble_eq_true rfl, Nat.le_of_ble_eq_true rfl⟩ rfl (av := [.ref (V 0), .int (xs (i + (1 : Int32)).toNatClampNeg), .int (xs (i + (2 : Int32)).toNatClampNeg), .int (xs (i + (3 : Int32)).toNatClampNeg), .ref ao]) rfl (Nat.le_of_ble_eq_true rfl) [0, 1, 2, 3, 4, 5, 6, 7, 8, 9, 10, 11, 12, 13, 14, 15, 16, 17, 25] [18, 19, 20, 21, 22, 23, 24] (wr := (wX1 cI cJ cZ cA U mcel mtint mcells mnear mthere mways mmore mthrown)) rfl rfl rfl rfl (by decide) dL_law_172 ⟨by show _ ≤ 601024; omega, by show _ ≤ 7293034; omega⟩ (fun k1005 u9 h => ?_)
  obtain ⟨land_1001, there_1002, near_1003, out_1004⟩ := u9
  refine x_wsub (ws' := (wLaw cI cJ cZ cA V U land_1001 there_1002 near_1003 worn trial fits ways joined mcel mtint mcells mnear mthere mways mmore mthrown ao out_1004)) [7, 8, 9, 10, 11, 12, 13, 14, 15, 16, 17, 18, 19, 20, 21, 22, 23, 24, 0, 1, 2, 3, 4, 5, 6, 25] rfl rfl ?_
  refine x_istore (lv' := [(0, .ref b), (1, .ref (V 0)), (2, .ref (U 0)), (3, .ref ao), (4, .int i), (5, .int k1005)]) (pc := 175) K dL_law_175 (by decide) rfl ?_
  refine x_aload_n (pc := 177) K dL_law_177 2 rfl rfl ?_
  refine x_aload_n (pc := 178) K dL_law_178 0 rfl rfl ?_
  refine x_iload (pc := 179) K dL_law_179 4 rfl ?_
  refine x_iconst (v := 1) (pc := 181) K dL_law_181 (by decide) ?_
  refine x_iadd (pc := 182) K dL_law_182 ?_
  have g9 := h.1
  replace h := h.2
  refine x_sld (pc := 183) K hsc g9 dL_law_183 ?_
  clear g9
  refine x_aload_n (pc := 184) K dL_law_184 0 rfl rfl ?_
  refine x_iload (pc := 185) K dL_law_185 4 rfl ?_
  refine x_iconst (v := 2) (pc := 187) K dL_law_187 (by decide) ?_
  refine x_iadd (pc := 188) K dL_law_188 ?_
  have g9 := h.1
  replace h := h.2
  refine x_sld (pc := 189) K hsc g9 dL_law_189 ?_
  clear g9
  refine x_aload_n (pc := 190) K dL_law_190 0 rfl rfl ?_
  refine x_iload (pc := 191) K dL_law_191 4 rfl ?_
  refine x_iconst (v := 3) (pc := 193) K dL_law_193 (by decide) ?_
  refine x_iadd (pc := 194) K dL_law_194 ?_
  have g9 := h.1
  replace h := h.2
  refine x_sld (pc := 195) K hsc g9 dL_law_195 ?_
  clear g9
  refine x_callVi (pc := 196) (n := 3) K (c_X1_paint l D cI cJ cZ cA U (xs (i + (1 : Int32)).toNatClampNeg) (xs (i + (2 : Int32)).toNatClampNeg) (xs (i + (3 : Int32)).toNatClampNeg) mcel mtint mcells mnear mthere mways mmore mthrown _ h) rfl rfl gL_law_X1_paint rfl (by decide +kernel) ⟨Nat.le_of_ble_eq_true rfl, Nat.le_of_ble_eq_true rfl⟩ rfl (av := [.int (xs (i + (1 : Int32)).toNatClampNeg), .int (xs (i + (2 : Int32)).toNatClampNeg), .int (xs (i + (3 : Int32)).toNatClampNeg)]) (b := U 0) (ci := 1) (q0 := 0) rfl rfl rfl (Nat.le_of_ble_eq_true rfl) [18, 19, 20, 21, 22, 23, 24] [0, 1, 2, 3, 4, 5, 6, 7, 8, 9, 10, 11, 12, 13, 14, 15, 16, 17, 25] (wr := (((wX0 cI cJ cZ cA V land_1001 there_1002 near_1003 worn trial fits ways) ++ wJ cI cA (V 7) (fun k => V (k + 8)) joined) ++ [(ao, .inl (cJ, 1, .inr (.inl out_1004)))])) rfl rfl rfl rfl (by decide) dL_law_196 ⟨by show _ ≤ 601024; omega, by show _ ≤ 7293034; omega⟩ (fun r1008 u9 h => ?_)
  obtain ⟨mcel_1006, mthrown_1007⟩ := u9
  refine x_wsub (ws' := (wLaw cI cJ cZ cA V U land_1001 there_1002 near_1003 worn trial fits ways joined mcel_1006 mtint mcells mnear mthere mways mmore mthrown_1007 ao out_1004)) [0, 1, 2, 3, 4, 5, 6, 7, 8, 9, 10, 11, 12, 13, 14, 15, 16, 17, 19, 20, 21, 22, 23, 24, 25, 18] rfl rfl ?_
  refine x_istore (lv' := [(0, .ref b), (1, .ref (V 0)), (2, .ref (U 0)), (3, .ref ao), (4, .int i), (5, .int k1005), (6, .int r1008)]) (pc := 199) K dL_law_199 (by decide) rfl ?_
  refine x_aload_n (pc := 201) K dL_law_201 2 rfl rfl ?_
  refine x_callVi (pc := 202) (n := 0) K (c_X1_thrown l D cI cJ cZ cA U mcel_1006 mtint mcells mnear mthere mways mmore mthrown_1007 _ h) rfl rfl gL_law_X1_thrown rfl (by decide +kernel) ⟨Nat.le_of_ble_eq_true rfl, Nat.le_of_ble_eq_true rfl⟩ rfl (av := []) (b := U 0) (ci := 1) (q0 := 0) rfl rfl rfl (Nat.le_of_ble_eq_true rfl) [18, 19, 20, 21, 22, 23, 24] [0, 1, 2, 3, 4, 5, 6, 7, 8, 9, 10, 11, 12, 13, 14, 15, 16, 17, 25] (wr := (((wX0 cI cJ cZ cA V land_1001 there_1002 near_1003 worn trial fits ways) ++ wJ cI cA (V 7) (fun k => V (k + 8)) joined) ++ [(ao, .inl (cJ, 1, .inr (.inl out_1004)))])) rfl rfl rfl rfl (by decide) dL_law_202 ⟨by show _ ≤ 601024; omega, by show _ ≤ 7293034; omega⟩ (fun r1009 _ h => ?_)
  refine x_wsub (ws' := (wLaw cI cJ cZ cA V U land_1001 there_1002 near_1003 worn trial fits ways joined mcel_1006 mtint mcells mnear mthere mways mmore mthrown_1007 ao out_1004)) [0, 1, 2, 3, 4, 5, 6, 7, 8, 9, 10, 11, 12, 13, 14, 15, 16, 17, 19, 20, 21, 22, 23, 24, 25, 18] rfl rfl ?_
  refine x_iload (pc := 205) K dL_law_205 5 rfl ?_
  refine x_icmp_eq (pc := 207) K dL_law_207 (tgt := 212) (by decide) (fun c9 => ?_) (fun c9 => ?_)
  · have h := h.1 c9
    refine x_iload (pc := 212) K dL_law_212 5 rfl ?_
    refine x_if_ne (pc := 214) K dL_law_214 (tgt := 229) (by decide) (fun c9 => ?_) (fun c9 => ?_)
    · have h := h.1 c9
      refine x_goto (pc := 229) K dL_law_229 (tgt := 1310) (by decide) ?_
      refine x_iinc (v := i + (6 : Int32)) (lv' := [(0, .ref b), (1, .ref (V 0)), (2, .ref (U 0)), (3, .ref ao), (4, .int (i + (6 : Int32))), (5, .int k1005), (6, .int r1008)]) (pc := 1310) K dL_law_1310 (k := 4) rfl rfl (by decide) rfl ?_
      refine x_goto (pc := 1313) K dL_law_1313 (tgt := 23) (by decide) ?_
      refine x_keep [true, true, true, true, true, false, false] rfl ?_
      exact ih (i + (6 : Int32)) land_1001 there_1002 near_1003 worn trial fits ways joined mcel_1006 mtint mcells mnear mthere mways mmore mthrown_1007 out_1004 _ _ (by omega) (by omega) h
    · have h := h.2 c9
      refine x_aload_n (pc := 217) K dL_law_217 3 rfl rfl ?_
      refine x_iconst (v := 0) (pc := 218) K dL_law_218 (by decide) ?_
      refine x_lald (pc := 219) K 25 1 rfl rfl (by decide) dL_law_219 ?_
      refine x_iload (pc := 220) K dL_law_220 6 rfl ?_
      refine x_i2l (pc := 222) K dL_law_222 ?_
      refine x_lcmp (pc := 223) K dL_law_223 ?_
      refine x_if_eq (pc := 224) K dL_law_224 (tgt := 229) (by decide) (fun c9 => ?_) (fun c9 => ?_)
      · have h := h.1 c9
        refine x_goto (pc := 229) K dL_law_229 (tgt := 1310) (by decide) ?_
        refine x_iinc (v := i + (6 : Int32)) (lv' := [(0, .ref b), (1, .ref (V 0)), (2, .ref (U 0)), (3, .ref ao), (4, .int (i + (6 : Int32))), (5, .int k1005), (6, .int r1008)]) (pc := 1310) K dL_law_1310 (k := 4) rfl rfl (by decide) rfl ?_
        refine x_goto (pc := 1313) K dL_law_1313 (tgt := 23) (by decide) ?_
        refine x_keep [true, true, true, true, true, false, false] rfl ?_
        exact ih (i + (6 : Int32)) land_1001 there_1002 near_1003 worn trial fits ways joined mcel_1006 mtint mcells mnear mthere mways mmore mthrown_1007 out_1004 _ _ (by omega) (by omega) h
      · have h := h.2 c9
        refine x_iconst (v := 0) (pc := 227) K dL_law_227 (by decide) ?_
        exact h.elim
  · have h := h.2 c9
    refine x_iconst (v := 0) (pc := 210) K dL_law_210 (by decide) ?_
    exact h.elim
set_option maxHeartbeats 4000000 in
set_option maxRecDepth 100000 in
theorem w_L_case1 {X : xC} {l : Launch} {D : va_G} {cI cJ cZ cA : ClassId} {V U : Nat → Nat} {ao b L : Nat} {xs : Nat → Int32} (hst : l.stackTraces = false) (K : xk X l room_1 D vwCl (xtys cI cJ cZ cA) cL_law RL wsL_law 8) (hE : xEx X RX0 [(61, "the block ends before it begins"), (180, "there is no such row or column"), (183, "there is no such country"), (185, "neither a country nor sea"), (187, "there is no such tint"), (189, "there are not so many tints"), (193, "the country is not there or has no tint")]) (hN : xno X) (hsc : xsc X b L xs) {n : Nat} (rec9 : Int32 → (Nat → Int64) → Int32 → (Nat → Int32) → (Nat → Int32) → (Nat → Int32) → (Nat → Int32) → (Nat → Int64) → (Nat → Nat → Int32) → (Nat → Int32) → (Nat → Int32) → (Nat → Int64) → (Nat → Int32) → Int32 → (Nat → Int64) → (Nat → Int64) → Int32 → (Nat → Int64) → Prop) (ih : ∀ (i : Int32) (land : Nat → Int64) (there : Int32) (near : Nat → Int32) (worn : Nat → Int32) (trial : Nat → Int32) (fits : Nat → Int32) (ways : Nat → Int64) (joined : Nat → Nat → Int32) (mcel : Nat → Int32) (mtint : Nat → Int32) (mcells : Nat → Int64) (mnear : Nat → Int32) (mthere : Int32) (mways : Nat → Int64) (mmore : Nat → Int64) (mthrown : Int32) (out : Nat → Int64) (c9 s9 : Nat), c9 + 4 * n ≤ 601024 → s9 + 24 * n ≤ 7293034 → rec9 i land there near worn trial fits ways joined mcel mtint mcells mnear mthere mways mmore mthrown out → xw X c9 s9 23 [(0, .ref b), (1, .ref (V 0)), (2, .ref (U 0)), (3, .ref ao), (4, .int i)] [] (wLaw cI cJ cZ cA V U land there near worn trial fits ways joined mcel mtint mcells mnear mthere mways mmore mthrown ao out)) (i : Int32) (land : Nat → Int64) (there : Int32) (near : Nat → Int32) (worn : Nat → Int32) (trial : Nat → Int32) (fits : Nat → Int32) (ways : Nat → Int64) (joined : Nat → Nat → Int32) (mcel : Nat → Int32) (mtint : Nat → Int32) (mcells : Nat → Int64) (mnear : Nat → Int32) (mthere : Int32) (mways : Nat → Int64) (mmore : Nat → Int64) (mthrown : Int32) (out : Nat → Int64) (c9 s9 : Nat) (hc : c9 + 4 * (n + 1) ≤ 601024) (hs : s9 + 24 * (n + 1) ≤ 7293034) (h : q_L_case1 L xs rec9 i land there near worn trial fits ways joined mcel mtint mcells mnear mthere mways mmore mthrown out) : xw X c9 s9 232 [(0, .ref b), (1, .ref (V 0)), (2, .ref (U 0)), (3, .ref ao), (4, .int i)] [] (wLaw cI cJ cZ cA V U land there near worn trial fits ways joined mcel mtint mcells mnear mthere mways mmore mthrown ao out) := by
  unfold q_L_case1 at h
  refine x_aload_n (pc := 232) K dL_law_232 1 rfl rfl ?_
  refine x_aload_n (pc := 233) K dL_law_233 0 rfl rfl ?_
  refine x_iload (pc := 234) K dL_law_234 4 rfl ?_
  refine x_iconst (v := 1) (pc := 236) K dL_law_236 (by decide) ?_
  refine x_iadd (pc := 237) K dL_law_237 ?_
  have g9 := h.1
  replace h := h.2
  refine x_sld (pc := 238) K hsc g9 dL_law_238 ?_
  clear g9
  refine x_aload_n (pc := 239) K dL_law_239 0 rfl rfl ?_
  refine x_iload (pc := 240) K dL_law_240 4 rfl ?_
  refine x_iconst (v := 2) (pc := 242) K dL_law_242 (by decide) ?_
  refine x_iadd (pc := 243) K dL_law_243 ?_
  have g9 := h.1
  replace h := h.2
  refine x_sld (pc := 244) K hsc g9 dL_law_244 ?_
  clear g9
  refine x_aload_n (pc := 245) K dL_law_245 0 rfl rfl ?_
  refine x_iload (pc := 246) K dL_law_246 4 rfl ?_
  refine x_iconst (v := 3) (pc := 248) K dL_law_248 (by decide) ?_
  refine x_iadd (pc := 249) K dL_law_249 ?_
  have g9 := h.1
  replace h := h.2
  refine x_sld (pc := 250) K hsc g9 dL_law_250 ?_
  clear g9
  refine x_aload_n (pc := 251) K dL_law_251 0 rfl rfl ?_
  refine x_iload (pc := 252) K dL_law_252 4 rfl ?_
  refine x_iconst (v := 4) (pc := 254) K dL_law_254 (by decide) ?_
  refine x_iadd (pc := 255) K dL_law_255 ?_
  have g9 := h.1
  replace h := h.2
  refine x_sld (pc := 256) K hsc g9 dL_law_256 ?_
  clear g9
  refine x_aload_n (pc := 257) K dL_law_257 0 rfl rfl ?_
  refine x_iload (pc := 258) K dL_law_258 4 rfl ?_
  refine x_iconst (v := 5) (pc := 260) K dL_law_260 (by decide) ?_
  refine x_iadd (pc := 261) K dL_law_261 ?_
  have g9 := h.1
  replace h := h.2
  refine x_sld (pc := 262) K hsc g9 dL_law_262 ?_
  clear g9
  refine x_aload_n (pc := 263) K dL_law_263 3 rfl rfl ?_
  refine x_hcallS (pc := 264) (n := 7) K hE hN (by decide) (c_L_paintBlock l D cI cJ cZ cA hst V ao (xs (i + (1 : Int32)).toNatClampNeg) (xs (i + (2 : Int32)).toNatClampNeg) (xs (i + (3 : Int32)).toNatClampNeg) (xs (i + (4 : Int32)).toNatClampNeg) (xs (i + (5 : Int32)).toNatClampNeg) land there near worn trial fits ways joined out _ h) rfl rfl gL_law_L_paintBlock (hh := [(0, 16, 19, 13), (0, 16, 23, 15)]) rfl (by decide +kernel) ⟨Nat.le_of_ble_eq_true rfl, Nat.le_of_ble_eq_true rfl⟩ rfl (av := [.ref (V 0), .int (xs (i + (1 : Int32)).toNatClampNeg), .int (xs (i + (2 : Int32)).toNatClampNeg), .int (xs (i + (3 : Int32)).toNatClampNeg), .int (xs (i + (4 : Int32)).toNatClampNeg), .int (xs (i + (5 : Int32)).toNatClampNeg), .ref ao]) rfl (Nat.le_of_ble_eq_true rfl) [0, 1, 2, 3, 4, 5, 6, 7, 8, 9, 10, 11, 12, 13, 14, 15, 16, 17, 25] [18, 19, 20, 21, 22, 23, 24] (wr := (wX1 cI cJ cZ cA U mcel mtint mcells mnear mthere mways mmore mthrown)) rfl rfl rfl rfl (by decide) dL_law_264 ⟨by show _ ≤ 601024; omega, by show _ ≤ 7293034; omega⟩ (fun k2005 u9 h => ?_)
  obtain ⟨land_2001, there_2002, near_2003, out_2004⟩ := u9
  refine x_wsub (ws' := (wLaw cI cJ cZ cA V U land_2001 there_2002 near_2003 worn trial fits ways joined mcel mtint mcells mnear mthere mways mmore mthrown ao out_2004)) [7, 8, 9, 10, 11, 12, 13, 14, 15, 16, 17, 18, 19, 20, 21, 22, 23, 24, 0, 1, 2, 3, 4, 5, 6, 25] rfl rfl ?_
  refine x_istore (lv' := [(0, .ref b), (1, .ref (V 0)), (2, .ref (U 0)), (3, .ref ao), (4, .int i), (5, .int k2005)]) (pc := 267) K dL_law_267 (by decide) rfl ?_
  refine x_aload_n (pc := 269) K dL_law_269 2 rfl rfl ?_
  refine x_aload_n (pc := 270) K dL_law_270 0 rfl rfl ?_
  refine x_iload (pc := 271) K dL_law_271 4 rfl ?_
  refine x_iconst (v := 1) (pc := 273) K dL_law_273 (by decide) ?_
  refine x_iadd (pc := 274) K dL_law_274 ?_
  have g9 := h.1
  replace h := h.2
  refine x_sld (pc := 275) K hsc g9 dL_law_275 ?_
  clear g9
  refine x_aload_n (pc := 276) K dL_law_276 0 rfl rfl ?_
  refine x_iload (pc := 277) K dL_law_277 4 rfl ?_
  refine x_iconst (v := 2) (pc := 279) K dL_law_279 (by decide) ?_
  refine x_iadd (pc := 280) K dL_law_280 ?_
  have g9 := h.1
  replace h := h.2
  refine x_sld (pc := 281) K hsc g9 dL_law_281 ?_
  clear g9
  refine x_aload_n (pc := 282) K dL_law_282 0 rfl rfl ?_
  refine x_iload (pc := 283) K dL_law_283 4 rfl ?_
  refine x_iconst (v := 3) (pc := 285) K dL_law_285 (by decide) ?_
  refine x_iadd (pc := 286) K dL_law_286 ?_
  have g9 := h.1
  replace h := h.2
  refine x_sld (pc := 287) K hsc g9 dL_law_287 ?_
  clear g9
  refine x_aload_n (pc := 288) K dL_law_288 0 rfl rfl ?_
  refine x_iload (pc := 289) K dL_law_289 4 rfl ?_
  refine x_iconst (v := 4) (pc := 291) K dL_law_291 (by decide) ?_
  refine x_iadd (pc := 292) K dL_law_292 ?_
  have g9 := h.1
  replace h := h.2
  refine x_sld (pc := 293) K hsc g9 dL_law_293 ?_
  clear g9
  refine x_aload_n (pc := 294) K dL_law_294 0 rfl rfl ?_
  refine x_iload (pc := 295) K dL_law_295 4 rfl ?_
  refine x_iconst (v := 5) (pc := 297) K dL_law_297 (by decide) ?_
  refine x_iadd (pc := 298) K dL_law_298 ?_
  have g9 := h.1
  replace h := h.2
  refine x_sld (pc := 299) K hsc g9 dL_law_299 ?_
  clear g9
  refine x_callVi (pc := 300) (n := 5) K (c_X1_paintBlock l D cI cJ cZ cA U (xs (i + (1 : Int32)).toNatClampNeg) (xs (i + (2 : Int32)).toNatClampNeg) (xs (i + (3 : Int32)).toNatClampNeg) (xs (i + (4 : Int32)).toNatClampNeg) (xs (i + (5 : Int32)).toNatClampNeg) mcel mtint mcells mnear mthere mways mmore mthrown _ h) rfl rfl gL_law_X1_paintBlock rfl (by decide +kernel) ⟨Nat.le_of_ble_eq_true rfl, Nat.le_of_ble_eq_true rfl⟩ rfl (av := [.int (xs (i + (1 : Int32)).toNatClampNeg), .int (xs (i + (2 : Int32)).toNatClampNeg), .int (xs (i + (3 : Int32)).toNatClampNeg), .int (xs (i + (4 : Int32)).toNatClampNeg), .int (xs (i + (5 : Int32)).toNatClampNeg)]) (b := U 0) (ci := 1) (q0 := 0) rfl rfl rfl (Nat.le_of_ble_eq_true rfl) [18, 19, 20, 21, 22, 23, 24] [0, 1, 2, 3, 4, 5, 6, 7, 8, 9, 10, 11, 12, 13, 14, 15, 16, 17, 25] (wr := (((wX0 cI cJ cZ cA V land_2001 there_2002 near_2003 worn trial fits ways) ++ wJ cI cA (V 7) (fun k => V (k + 8)) joined) ++ [(ao, .inl (cJ, 1, .inr (.inl out_2004)))])) rfl rfl rfl rfl (by decide) dL_law_300 ⟨by show _ ≤ 601024; omega, by show _ ≤ 7293034; omega⟩ (fun r2008 u9 h => ?_)
  obtain ⟨mcel_2006, mthrown_2007⟩ := u9
  refine x_wsub (ws' := (wLaw cI cJ cZ cA V U land_2001 there_2002 near_2003 worn trial fits ways joined mcel_2006 mtint mcells mnear mthere mways mmore mthrown_2007 ao out_2004)) [0, 1, 2, 3, 4, 5, 6, 7, 8, 9, 10, 11, 12, 13, 14, 15, 16, 17, 19, 20, 21, 22, 23, 24, 25, 18] rfl rfl ?_
  refine x_istore (lv' := [(0, .ref b), (1, .ref (V 0)), (2, .ref (U 0)), (3, .ref ao), (4, .int i), (5, .int k2005), (6, .int r2008)]) (pc := 303) K dL_law_303 (by decide) rfl ?_
  refine x_aload_n (pc := 305) K dL_law_305 2 rfl rfl ?_
  refine x_callVi (pc := 306) (n := 0) K (c_X1_thrown l D cI cJ cZ cA U mcel_2006 mtint mcells mnear mthere mways mmore mthrown_2007 _ h) rfl rfl gL_law_X1_thrown rfl (by decide +kernel) ⟨Nat.le_of_ble_eq_true rfl, Nat.le_of_ble_eq_true rfl⟩ rfl (av := []) (b := U 0) (ci := 1) (q0 := 0) rfl rfl rfl (Nat.le_of_ble_eq_true rfl) [18, 19, 20, 21, 22, 23, 24] [0, 1, 2, 3, 4, 5, 6, 7, 8, 9, 10, 11, 12, 13, 14, 15, 16, 17, 25] (wr := (((wX0 cI cJ cZ cA V land_2001 there_2002 near_2003 worn trial fits ways) ++ wJ cI cA (V 7) (fun k => V (k + 8)) joined) ++ [(ao, .inl (cJ, 1, .inr (.inl out_2004)))])) rfl rfl rfl rfl (by decide) dL_law_306 ⟨by show _ ≤ 601024; omega, by show _ ≤ 7293034; omega⟩ (fun r2009 _ h => ?_)
  refine x_wsub (ws' := (wLaw cI cJ cZ cA V U land_2001 there_2002 near_2003 worn trial fits ways joined mcel_2006 mtint mcells mnear mthere mways mmore mthrown_2007 ao out_2004)) [0, 1, 2, 3, 4, 5, 6, 7, 8, 9, 10, 11, 12, 13, 14, 15, 16, 17, 19, 20, 21, 22, 23, 24, 25, 18] rfl rfl ?_
  refine x_iload (pc := 309) K dL_law_309 5 rfl ?_
  refine x_icmp_eq (pc := 311) K dL_law_311 (tgt := 316) (by decide) (fun c9 => ?_) (fun c9 => ?_)
  · have h := h.1 c9
    refine x_iload (pc := 316) K dL_law_316 5 rfl ?_
    refine x_if_ne (pc := 318) K dL_law_318 (tgt := 333) (by decide) (fun c9 => ?_) (fun c9 => ?_)
    · have h := h.1 c9
      refine x_goto (pc := 333) K dL_law_333 (tgt := 1310) (by decide) ?_
      refine x_iinc (v := i + (6 : Int32)) (lv' := [(0, .ref b), (1, .ref (V 0)), (2, .ref (U 0)), (3, .ref ao), (4, .int (i + (6 : Int32))), (5, .int k2005), (6, .int r2008)]) (pc := 1310) K dL_law_1310 (k := 4) rfl rfl (by decide) rfl ?_
      refine x_goto (pc := 1313) K dL_law_1313 (tgt := 23) (by decide) ?_
      refine x_keep [true, true, true, true, true, false, false] rfl ?_
      exact ih (i + (6 : Int32)) land_2001 there_2002 near_2003 worn trial fits ways joined mcel_2006 mtint mcells mnear mthere mways mmore mthrown_2007 out_2004 _ _ (by omega) (by omega) h
    · have h := h.2 c9
      refine x_aload_n (pc := 321) K dL_law_321 3 rfl rfl ?_
      refine x_iconst (v := 0) (pc := 322) K dL_law_322 (by decide) ?_
      refine x_lald (pc := 323) K 25 1 rfl rfl (by decide) dL_law_323 ?_
      refine x_iload (pc := 324) K dL_law_324 6 rfl ?_
      refine x_i2l (pc := 326) K dL_law_326 ?_
      refine x_lcmp (pc := 327) K dL_law_327 ?_
      refine x_if_eq (pc := 328) K dL_law_328 (tgt := 333) (by decide) (fun c9 => ?_) (fun c9 => ?_)
      · have h := h.1 c9
        refine x_goto (pc := 333) K dL_law_333 (tgt := 1310) (by decide) ?_
        refine x_iinc (v := i + (6 : Int32)) (lv' := [(0, .ref b), (1, .ref (V 0)), (2, .ref (U 0)), (3, .ref ao), (4, .int (i + (6 : Int32))), (5, .int k2005), (6, .int r2008)]) (pc := 1310) K dL_law_1310 (k := 4) rfl rfl (by decide) rfl ?_
        refine x_goto (pc := 1313) K dL_law_1313 (tgt := 23) (by decide) ?_
        refine x_keep [true, true, true, true, true, false, false] rfl ?_
        exact ih (i + (6 : Int32)) land_2001 there_2002 near_2003 worn trial fits ways joined mcel_2006 mtint mcells mnear mthere mways mmore mthrown_2007 out_2004 _ _ (by omega) (by omega) h
      · have h := h.2 c9
        refine x_iconst (v := 0) (pc := 331) K dL_law_331 (by decide) ?_
        exact h.elim
  · have h := h.2 c9
    refine x_iconst (v := 0) (pc := 314) K dL_law_314 (by decide) ?_
    exact h.elim
set_option maxHeartbeats 4000000 in
set_option maxRecDepth 100000 in
theorem w_L_case2 {X : xC} {l : Launch} {D : va_G} {cI cJ cZ cA : ClassId} {V U : Nat → Nat} {ao b L : Nat} {xs : Nat → Int32} (hst : l.stackTraces = false) (K : xk X l room_1 D vwCl (xtys cI cJ cZ cA) cL_law RL wsL_law 8) (hE : xEx X RX0 [(61, "the block ends before it begins"), (180, "there is no such row or column"), (183, "there is no such country"), (185, "neither a country nor sea"), (187, "there is no such tint"), (189, "there are not so many tints"), (193, "the country is not there or has no tint")]) (hN : xno X) (hsc : xsc X b L xs) {n : Nat} (rec9 : Int32 → (Nat → Int64) → Int32 → (Nat → Int32) → (Nat → Int32) → (Nat → Int32) → (Nat → Int32) → (Nat → Int64) → (Nat → Nat → Int32) → (Nat → Int32) → (Nat → Int32) → (Nat → Int64) → (Nat → Int32) → Int32 → (Nat → Int64) → (Nat → Int64) → Int32 → (Nat → Int64) → Prop) (ih : ∀ (i : Int32) (land : Nat → Int64) (there : Int32) (near : Nat → Int32) (worn : Nat → Int32) (trial : Nat → Int32) (fits : Nat → Int32) (ways : Nat → Int64) (joined : Nat → Nat → Int32) (mcel : Nat → Int32) (mtint : Nat → Int32) (mcells : Nat → Int64) (mnear : Nat → Int32) (mthere : Int32) (mways : Nat → Int64) (mmore : Nat → Int64) (mthrown : Int32) (out : Nat → Int64) (c9 s9 : Nat), c9 + 4 * n ≤ 601024 → s9 + 24 * n ≤ 7293034 → rec9 i land there near worn trial fits ways joined mcel mtint mcells mnear mthere mways mmore mthrown out → xw X c9 s9 23 [(0, .ref b), (1, .ref (V 0)), (2, .ref (U 0)), (3, .ref ao), (4, .int i)] [] (wLaw cI cJ cZ cA V U land there near worn trial fits ways joined mcel mtint mcells mnear mthere mways mmore mthrown ao out)) (i : Int32) (land : Nat → Int64) (there : Int32) (near : Nat → Int32) (worn : Nat → Int32) (trial : Nat → Int32) (fits : Nat → Int32) (ways : Nat → Int64) (joined : Nat → Nat → Int32) (mcel : Nat → Int32) (mtint : Nat → Int32) (mcells : Nat → Int64) (mnear : Nat → Int32) (mthere : Int32) (mways : Nat → Int64) (mmore : Nat → Int64) (mthrown : Int32) (out : Nat → Int64) (c9 s9 : Nat) (hc : c9 + 4 * (n + 1) ≤ 601024) (hs : s9 + 24 * (n + 1) ≤ 7293034) (h : q_L_case2 L xs rec9 i land there near worn trial fits ways joined mcel mtint mcells mnear mthere mways mmore mthrown out) : xw X c9 s9 336 [(0, .ref b), (1, .ref (V 0)), (2, .ref (U 0)), (3, .ref ao), (4, .int i)] [] (wLaw cI cJ cZ cA V U land there near worn trial fits ways joined mcel mtint mcells mnear mthere mways mmore mthrown ao out) := by
  unfold q_L_case2 at h
  refine x_aload_n (pc := 336) K dL_law_336 1 rfl rfl ?_
  refine x_aload_n (pc := 337) K dL_law_337 0 rfl rfl ?_
  refine x_iload (pc := 338) K dL_law_338 4 rfl ?_
  refine x_iconst (v := 1) (pc := 340) K dL_law_340 (by decide) ?_
  refine x_iadd (pc := 341) K dL_law_341 ?_
  have g9 := h.1
  replace h := h.2
  refine x_sld (pc := 342) K hsc g9 dL_law_342 ?_
  clear g9
  refine x_aload_n (pc := 343) K dL_law_343 0 rfl rfl ?_
  refine x_iload (pc := 344) K dL_law_344 4 rfl ?_
  refine x_iconst (v := 2) (pc := 346) K dL_law_346 (by decide) ?_
  refine x_iadd (pc := 347) K dL_law_347 ?_
  have g9 := h.1
  replace h := h.2
  refine x_sld (pc := 348) K hsc g9 dL_law_348 ?_
  clear g9
  refine x_aload_n (pc := 349) K dL_law_349 3 rfl rfl ?_
  refine x_hcallS (pc := 350) (n := 4) K hE hN (by decide) (c_L_countryAt l D cI cJ cZ cA hst V ao (xs (i + (1 : Int32)).toNatClampNeg) (xs (i + (2 : Int32)).toNatClampNeg) land there near worn trial fits ways joined out _ h) rfl rfl gL_law_L_countryAt (hh := [(0, 10, 13, 13)]) rfl (by decide +kernel) ⟨Nat.le_of_ble_eq_true rfl, Nat.le_of_ble_eq_true rfl⟩ rfl (av := [.ref (V 0), .int (xs (i + (1 : Int32)).toNatClampNeg), .int (xs (i + (2 : Int32)).toNatClampNeg), .ref ao]) rfl (Nat.le_of_ble_eq_true rfl) [0, 1, 2, 3, 4, 5, 6, 7, 8, 9, 10, 11, 12, 13, 14, 15, 16, 17, 25] [18, 19, 20, 21, 22, 23, 24] (wr := (wX1 cI cJ cZ cA U mcel mtint mcells mnear mthere mways mmore mthrown)) rfl rfl rfl rfl (by decide) dL_law_350 ⟨by show _ ≤ 601024; omega, by show _ ≤ 7293034; omega⟩ (fun k3002 out_3001 h => ?_)
  refine x_wsub (ws' := (wLaw cI cJ cZ cA V U land there near worn trial fits ways joined mcel mtint mcells mnear mthere mways mmore mthrown ao out_3001)) [7, 8, 9, 10, 11, 12, 13, 14, 15, 16, 17, 18, 19, 20, 21, 22, 23, 24, 0, 1, 2, 3, 4, 5, 6, 25] rfl rfl ?_
  refine x_istore (lv' := [(0, .ref b), (1, .ref (V 0)), (2, .ref (U 0)), (3, .ref ao), (4, .int i), (5, .int k3002)]) (pc := 353) K dL_law_353 (by decide) rfl ?_
  refine x_aload_n (pc := 355) K dL_law_355 2 rfl rfl ?_
  refine x_aload_n (pc := 356) K dL_law_356 0 rfl rfl ?_
  refine x_iload (pc := 357) K dL_law_357 4 rfl ?_
  refine x_iconst (v := 1) (pc := 359) K dL_law_359 (by decide) ?_
  refine x_iadd (pc := 360) K dL_law_360 ?_
  have g9 := h.1
  replace h := h.2
  refine x_sld (pc := 361) K hsc g9 dL_law_361 ?_
  clear g9
  refine x_aload_n (pc := 362) K dL_law_362 0 rfl rfl ?_
  refine x_iload (pc := 363) K dL_law_363 4 rfl ?_
  refine x_iconst (v := 2) (pc := 365) K dL_law_365 (by decide) ?_
  refine x_iadd (pc := 366) K dL_law_366 ?_
  have g9 := h.1
  replace h := h.2
  refine x_sld (pc := 367) K hsc g9 dL_law_367 ?_
  clear g9
  refine x_callVi (pc := 368) (n := 2) K (c_X1_countryAt l D cI cJ cZ cA U (xs (i + (1 : Int32)).toNatClampNeg) (xs (i + (2 : Int32)).toNatClampNeg) mcel mtint mcells mnear mthere mways mmore mthrown _ h) rfl rfl gL_law_X1_countryAt rfl (by decide +kernel) ⟨Nat.le_of_ble_eq_true rfl, Nat.le_of_ble_eq_true rfl⟩ rfl (av := [.int (xs (i + (1 : Int32)).toNatClampNeg), .int (xs (i + (2 : Int32)).toNatClampNeg)]) (b := U 0) (ci := 1) (q0 := 0) rfl rfl rfl (Nat.le_of_ble_eq_true rfl) [18, 19, 20, 21, 22, 23, 24] [0, 1, 2, 3, 4, 5, 6, 7, 8, 9, 10, 11, 12, 13, 14, 15, 16, 17, 25] (wr := (((wX0 cI cJ cZ cA V land there near worn trial fits ways) ++ wJ cI cA (V 7) (fun k => V (k + 8)) joined) ++ [(ao, .inl (cJ, 1, .inr (.inl out_3001)))])) rfl rfl rfl rfl (by decide) dL_law_368 ⟨by show _ ≤ 601024; omega, by show _ ≤ 7293034; omega⟩ (fun r3004 mthrown_3003 h => ?_)
  refine x_wsub (ws' := (wLaw cI cJ cZ cA V U land there near worn trial fits ways joined mcel mtint mcells mnear mthere mways mmore mthrown_3003 ao out_3001)) [0, 1, 2, 3, 4, 5, 6, 7, 8, 9, 10, 11, 12, 13, 14, 15, 16, 17, 19, 20, 21, 22, 23, 24, 25, 18] rfl rfl ?_
  refine x_istore (lv' := [(0, .ref b), (1, .ref (V 0)), (2, .ref (U 0)), (3, .ref ao), (4, .int i), (5, .int k3002), (6, .int r3004)]) (pc := 371) K dL_law_371 (by decide) rfl ?_
  refine x_aload_n (pc := 373) K dL_law_373 2 rfl rfl ?_
  refine x_callVi (pc := 374) (n := 0) K (c_X1_thrown l D cI cJ cZ cA U mcel mtint mcells mnear mthere mways mmore mthrown_3003 _ h) rfl rfl gL_law_X1_thrown rfl (by decide +kernel) ⟨Nat.le_of_ble_eq_true rfl, Nat.le_of_ble_eq_true rfl⟩ rfl (av := []) (b := U 0) (ci := 1) (q0 := 0) rfl rfl rfl (Nat.le_of_ble_eq_true rfl) [18, 19, 20, 21, 22, 23, 24] [0, 1, 2, 3, 4, 5, 6, 7, 8, 9, 10, 11, 12, 13, 14, 15, 16, 17, 25] (wr := (((wX0 cI cJ cZ cA V land there near worn trial fits ways) ++ wJ cI cA (V 7) (fun k => V (k + 8)) joined) ++ [(ao, .inl (cJ, 1, .inr (.inl out_3001)))])) rfl rfl rfl rfl (by decide) dL_law_374 ⟨by show _ ≤ 601024; omega, by show _ ≤ 7293034; omega⟩ (fun r3005 _ h => ?_)
  refine x_wsub (ws' := (wLaw cI cJ cZ cA V U land there near worn trial fits ways joined mcel mtint mcells mnear mthere mways mmore mthrown_3003 ao out_3001)) [0, 1, 2, 3, 4, 5, 6, 7, 8, 9, 10, 11, 12, 13, 14, 15, 16, 17, 19, 20, 21, 22, 23, 24, 25, 18] rfl rfl ?_
  refine x_iload (pc := 377) K dL_law_377 5 rfl ?_
  refine x_icmp_eq (pc := 379) K dL_law_379 (tgt := 384) (by decide) (fun c9 => ?_) (fun c9 => ?_)
  · have h := h.1 c9
    refine x_iload (pc := 384) K dL_law_384 5 rfl ?_
    refine x_if_ne (pc := 386) K dL_law_386 (tgt := 401) (by decide) (fun c9 => ?_) (fun c9 => ?_)
    · have h := h.1 c9
      refine x_goto (pc := 401) K dL_law_401 (tgt := 1310) (by decide) ?_
      refine x_iinc (v := i + (6 : Int32)) (lv' := [(0, .ref b), (1, .ref (V 0)), (2, .ref (U 0)), (3, .ref ao), (4, .int (i + (6 : Int32))), (5, .int k3002), (6, .int r3004)]) (pc := 1310) K dL_law_1310 (k := 4) rfl rfl (by decide) rfl ?_
      refine x_goto (pc := 1313) K dL_law_1313 (tgt := 23) (by decide) ?_
      refine x_keep [true, true, true, true, true, false, false] rfl ?_
      exact ih (i + (6 : Int32)) land there near worn trial fits ways joined mcel mtint mcells mnear mthere mways mmore mthrown_3003 out_3001 _ _ (by omega) (by omega) h
    · have h := h.2 c9
      refine x_aload_n (pc := 389) K dL_law_389 3 rfl rfl ?_
      refine x_iconst (v := 0) (pc := 390) K dL_law_390 (by decide) ?_
      refine x_lald (pc := 391) K 25 1 rfl rfl (by decide) dL_law_391 ?_
      refine x_iload (pc := 392) K dL_law_392 6 rfl ?_
      refine x_i2l (pc := 394) K dL_law_394 ?_
      refine x_lcmp (pc := 395) K dL_law_395 ?_
      refine x_if_eq (pc := 396) K dL_law_396 (tgt := 401) (by decide) (fun c9 => ?_) (fun c9 => ?_)
      · have h := h.1 c9
        refine x_goto (pc := 401) K dL_law_401 (tgt := 1310) (by decide) ?_
        refine x_iinc (v := i + (6 : Int32)) (lv' := [(0, .ref b), (1, .ref (V 0)), (2, .ref (U 0)), (3, .ref ao), (4, .int (i + (6 : Int32))), (5, .int k3002), (6, .int r3004)]) (pc := 1310) K dL_law_1310 (k := 4) rfl rfl (by decide) rfl ?_
        refine x_goto (pc := 1313) K dL_law_1313 (tgt := 23) (by decide) ?_
        refine x_keep [true, true, true, true, true, false, false] rfl ?_
        exact ih (i + (6 : Int32)) land there near worn trial fits ways joined mcel mtint mcells mnear mthere mways mmore mthrown_3003 out_3001 _ _ (by omega) (by omega) h
      · have h := h.2 c9
        refine x_iconst (v := 0) (pc := 399) K dL_law_399 (by decide) ?_
        exact h.elim
  · have h := h.2 c9
    refine x_iconst (v := 0) (pc := 382) K dL_law_382 (by decide) ?_
    exact h.elim
set_option maxHeartbeats 4000000 in
set_option maxRecDepth 100000 in
theorem w_L_case3 {X : xC} {l : Launch} {D : va_G} {cI cJ cZ cA : ClassId} {V U : Nat → Nat} {ao b L : Nat} {xs : Nat → Int32} (hst : l.stackTraces = false) (K : xk X l room_1 D vwCl (xtys cI cJ cZ cA) cL_law RL wsL_law 8) (hE : xEx X RX0 [(61, "the block ends before it begins"), (180, "there is no such row or column"), (183, "there is no such country"), (185, "neither a country nor sea"), (187, "there is no such tint"), (189, "there are not so many tints"), (193, "the country is not there or has no tint")]) (hN : xno X) (hsc : xsc X b L xs) {n : Nat} (rec9 : Int32 → (Nat → Int64) → Int32 → (Nat → Int32) → (Nat → Int32) → (Nat → Int32) → (Nat → Int32) → (Nat → Int64) → (Nat → Nat → Int32) → (Nat → Int32) → (Nat → Int32) → (Nat → Int64) → (Nat → Int32) → Int32 → (Nat → Int64) → (Nat → Int64) → Int32 → (Nat → Int64) → Prop) (ih : ∀ (i : Int32) (land : Nat → Int64) (there : Int32) (near : Nat → Int32) (worn : Nat → Int32) (trial : Nat → Int32) (fits : Nat → Int32) (ways : Nat → Int64) (joined : Nat → Nat → Int32) (mcel : Nat → Int32) (mtint : Nat → Int32) (mcells : Nat → Int64) (mnear : Nat → Int32) (mthere : Int32) (mways : Nat → Int64) (mmore : Nat → Int64) (mthrown : Int32) (out : Nat → Int64) (c9 s9 : Nat), c9 + 4 * n ≤ 601024 → s9 + 24 * n ≤ 7293034 → rec9 i land there near worn trial fits ways joined mcel mtint mcells mnear mthere mways mmore mthrown out → xw X c9 s9 23 [(0, .ref b), (1, .ref (V 0)), (2, .ref (U 0)), (3, .ref ao), (4, .int i)] [] (wLaw cI cJ cZ cA V U land there near worn trial fits ways joined mcel mtint mcells mnear mthere mways mmore mthrown ao out)) (i : Int32) (land : Nat → Int64) (there : Int32) (near : Nat → Int32) (worn : Nat → Int32) (trial : Nat → Int32) (fits : Nat → Int32) (ways : Nat → Int64) (joined : Nat → Nat → Int32) (mcel : Nat → Int32) (mtint : Nat → Int32) (mcells : Nat → Int64) (mnear : Nat → Int32) (mthere : Int32) (mways : Nat → Int64) (mmore : Nat → Int64) (mthrown : Int32) (out : Nat → Int64) (c9 s9 : Nat) (hc : c9 + 4 * (n + 1) ≤ 601024) (hs : s9 + 24 * (n + 1) ≤ 7293034) (h : q_L_case3 L xs rec9 i land there near worn trial fits ways joined mcel mtint mcells mnear mthere mways mmore mthrown out) : xw X c9 s9 404 [(0, .ref b), (1, .ref (V 0)), (2, .ref (U 0)), (3, .ref ao), (4, .int i)] [] (wLaw cI cJ cZ cA V U land there near worn trial fits ways joined mcel mtint mcells mnear mthere mways mmore mthrown ao out) := by
  unfold q_L_case3 at h
  refine x_aload_n (pc := 404) K dL_law_404 1 rfl rfl ?_
  refine x_callVi (pc := 405) (n := 0) K (c_X0_countries l D cI cJ cZ cA V land there near worn trial fits ways _ h) rfl rfl gL_law_X0_countries rfl (by decide +kernel) ⟨Nat.le_of_ble_eq_true rfl, Nat.le_of_ble_eq_true rfl⟩ rfl (av := []) (b := V 0) (ci := 0) (q0 := 0) rfl rfl rfl (Nat.le_of_ble_eq_true rfl) [0, 1, 2, 3, 4, 5, 6] [7, 8, 9, 10, 11, 12, 13, 14, 15, 16, 17, 18, 19, 20, 21, 22, 23, 24, 25] (wr := ((wJ cI cA (V 7) (fun k => V (k + 8)) joined ++ wX1 cI cJ cZ cA U mcel mtint mcells mnear mthere mways mmore mthrown) ++ [(ao, .inl (cJ, 1, .inr (.inl out)))])) rfl rfl rfl rfl (by decide) dL_law_405 ⟨by show _ ≤ 601024; omega, by show _ ≤ 7293034; omega⟩ (fun r4001 _ h => ?_)
  refine x_wsub (ws' := (wLaw cI cJ cZ cA V U land there near worn trial fits ways joined mcel mtint mcells mnear mthere mways mmore mthrown ao out)) [19, 20, 21, 22, 23, 24, 25, 0, 1, 2, 3, 4, 5, 6, 7, 8, 9, 10, 11, 12, 13, 14, 15, 16, 17, 18] rfl rfl ?_
  refine x_aload_n (pc := 408) K dL_law_408 2 rfl rfl ?_
  refine x_callVi (pc := 409) (n := 0) K (c_X1_countries l D cI cJ cZ cA U mcel mtint mcells mnear mthere mways mmore mthrown _ h) rfl rfl gL_law_X1_countries rfl (by decide +kernel) ⟨Nat.le_of_ble_eq_true rfl, Nat.le_of_ble_eq_true rfl⟩ rfl (av := []) (b := U 0) (ci := 1) (q0 := 0) rfl rfl rfl (Nat.le_of_ble_eq_true rfl) [18, 19, 20, 21, 22, 23, 24] [0, 1, 2, 3, 4, 5, 6, 7, 8, 9, 10, 11, 12, 13, 14, 15, 16, 17, 25] (wr := (((wX0 cI cJ cZ cA V land there near worn trial fits ways) ++ wJ cI cA (V 7) (fun k => V (k + 8)) joined) ++ [(ao, .inl (cJ, 1, .inr (.inl out)))])) rfl rfl rfl rfl (by decide) dL_law_409 ⟨by show _ ≤ 601024; omega, by show _ ≤ 7293034; omega⟩ (fun r4006 u9 h => ?_)
  obtain ⟨mcells_4002, mnear_4003, mthere_4004, mthrown_4005⟩ := u9
  refine x_wsub (ws' := (wLaw cI cJ cZ cA V U land there near worn trial fits ways joined mcel mtint mcells_4002 mnear_4003 mthere_4004 mways mmore mthrown_4005 ao out)) [0, 1, 2, 3, 4, 5, 6, 7, 8, 9, 10, 11, 12, 13, 14, 15, 16, 17, 19, 20, 21, 22, 23, 24, 25, 18] rfl rfl ?_
  refine x_icmp_eq (pc := 412) K dL_law_412 (tgt := 1310) (by decide) (fun c9 => ?_) (fun c9 => ?_)
  · have h := h.1 c9
    refine x_iinc (v := i + (6 : Int32)) (lv' := [(0, .ref b), (1, .ref (V 0)), (2, .ref (U 0)), (3, .ref ao), (4, .int (i + (6 : Int32)))]) (pc := 1310) K dL_law_1310 (k := 4) rfl rfl (by decide) rfl ?_
    refine x_goto (pc := 1313) K dL_law_1313 (tgt := 23) (by decide) ?_
    exact ih (i + (6 : Int32)) land there near worn trial fits ways joined mcel mtint mcells_4002 mnear_4003 mthere_4004 mways mmore mthrown_4005 out _ _ (by omega) (by omega) h
  · have h := h.2 c9
    refine x_iconst (v := 0) (pc := 415) K dL_law_415 (by decide) ?_
    exact h.elim
set_option maxHeartbeats 4000000 in
set_option maxRecDepth 100000 in
theorem w_L_case4 {X : xC} {l : Launch} {D : va_G} {cI cJ cZ cA : ClassId} {V U : Nat → Nat} {ao b L : Nat} {xs : Nat → Int32} (hst : l.stackTraces = false) (K : xk X l room_1 D vwCl (xtys cI cJ cZ cA) cL_law RL wsL_law 8) (hE : xEx X RX0 [(61, "the block ends before it begins"), (180, "there is no such row or column"), (183, "there is no such country"), (185, "neither a country nor sea"), (187, "there is no such tint"), (189, "there are not so many tints"), (193, "the country is not there or has no tint")]) (hN : xno X) (hsc : xsc X b L xs) {n : Nat} (rec9 : Int32 → (Nat → Int64) → Int32 → (Nat → Int32) → (Nat → Int32) → (Nat → Int32) → (Nat → Int32) → (Nat → Int64) → (Nat → Nat → Int32) → (Nat → Int32) → (Nat → Int32) → (Nat → Int64) → (Nat → Int32) → Int32 → (Nat → Int64) → (Nat → Int64) → Int32 → (Nat → Int64) → Prop) (ih : ∀ (i : Int32) (land : Nat → Int64) (there : Int32) (near : Nat → Int32) (worn : Nat → Int32) (trial : Nat → Int32) (fits : Nat → Int32) (ways : Nat → Int64) (joined : Nat → Nat → Int32) (mcel : Nat → Int32) (mtint : Nat → Int32) (mcells : Nat → Int64) (mnear : Nat → Int32) (mthere : Int32) (mways : Nat → Int64) (mmore : Nat → Int64) (mthrown : Int32) (out : Nat → Int64) (c9 s9 : Nat), c9 + 4 * n ≤ 601024 → s9 + 24 * n ≤ 7293034 → rec9 i land there near worn trial fits ways joined mcel mtint mcells mnear mthere mways mmore mthrown out → xw X c9 s9 23 [(0, .ref b), (1, .ref (V 0)), (2, .ref (U 0)), (3, .ref ao), (4, .int i)] [] (wLaw cI cJ cZ cA V U land there near worn trial fits ways joined mcel mtint mcells mnear mthere mways mmore mthrown ao out)) (i : Int32) (land : Nat → Int64) (there : Int32) (near : Nat → Int32) (worn : Nat → Int32) (trial : Nat → Int32) (fits : Nat → Int32) (ways : Nat → Int64) (joined : Nat → Nat → Int32) (mcel : Nat → Int32) (mtint : Nat → Int32) (mcells : Nat → Int64) (mnear : Nat → Int32) (mthere : Int32) (mways : Nat → Int64) (mmore : Nat → Int64) (mthrown : Int32) (out : Nat → Int64) (c9 s9 : Nat) (hc : c9 + 4 * (n + 1) ≤ 601024) (hs : s9 + 24 * (n + 1) ≤ 7293034) (h : q_L_case4 L xs rec9 i land there near worn trial fits ways joined mcel mtint mcells mnear mthere mways mmore mthrown out) : xw X c9 s9 417 [(0, .ref b), (1, .ref (V 0)), (2, .ref (U 0)), (3, .ref ao), (4, .int i)] [] (wLaw cI cJ cZ cA V U land there near worn trial fits ways joined mcel mtint mcells mnear mthere mways mmore mthrown ao out) := by
  unfold q_L_case4 at h
  refine x_aload_n (pc := 417) K dL_law_417 1 rfl rfl ?_
  refine x_aload_n (pc := 418) K dL_law_418 0 rfl rfl ?_
  refine x_iload (pc := 419) K dL_law_419 4 rfl ?_
  refine x_iconst (v := 1) (pc := 421) K dL_law_421 (by decide) ?_
  refine x_iadd (pc := 422) K dL_law_422 ?_
  have g9 := h.1
  replace h := h.2
  refine x_sld (pc := 423) K hsc g9 dL_law_423 ?_
  clear g9
  refine x_aload_n (pc := 424) K dL_law_424 3 rfl rfl ?_
  refine x_hcallS (pc := 425) (n := 3) K hE hN (by decide) (c_L_area l D cI cJ cZ cA hst V ao (xs (i + (1 : Int32)).toNatClampNeg) land there near worn trial fits ways joined out _ h) rfl rfl gL_law_L_area (hh := [(0, 9, 12, 13)]) rfl (by decide +kernel) ⟨Nat.le_of_ble_eq_true rfl, Nat.le_of_ble_eq_true rfl⟩ rfl (av := [.ref (V 0), .int (xs (i + (1 : Int32)).toNatClampNeg), .ref ao]) rfl (Nat.le_of_ble_eq_true rfl) [0, 1, 2, 3, 4, 5, 6, 7, 8, 9, 10, 11, 12, 13, 14, 15, 16, 17, 25] [18, 19, 20, 21, 22, 23, 24] (wr := (wX1 cI cJ cZ cA U mcel mtint mcells mnear mthere mways mmore mthrown)) rfl rfl rfl rfl (by decide) dL_law_425 ⟨by show _ ≤ 601024; omega, by show _ ≤ 7293034; omega⟩ (fun k5002 out_5001 h => ?_)
  refine x_wsub (ws' := (wLaw cI cJ cZ cA V U land there near worn trial fits ways joined mcel mtint mcells mnear mthere mways mmore mthrown ao out_5001)) [7, 8, 9, 10, 11, 12, 13, 14, 15, 16, 17, 18, 19, 20, 21, 22, 23, 24, 0, 1, 2, 3, 4, 5, 6, 25] rfl rfl ?_
  refine x_istore (lv' := [(0, .ref b), (1, .ref (V 0)), (2, .ref (U 0)), (3, .ref ao), (4, .int i), (5, .int k5002)]) (pc := 428) K dL_law_428 (by decide) rfl ?_
  refine x_aload_n (pc := 430) K dL_law_430 2 rfl rfl ?_
  refine x_aload_n (pc := 431) K dL_law_431 0 rfl rfl ?_
  refine x_iload (pc := 432) K dL_law_432 4 rfl ?_
  refine x_iconst (v := 1) (pc := 434) K dL_law_434 (by decide) ?_
  refine x_iadd (pc := 435) K dL_law_435 ?_
  have g9 := h.1
  replace h := h.2
  refine x_sld (pc := 436) K hsc g9 dL_law_436 ?_
  clear g9
  refine x_callVi (pc := 437) (n := 1) K (c_X1_area l D cI cJ cZ cA U (xs (i + (1 : Int32)).toNatClampNeg) mcel mtint mcells mnear mthere mways mmore mthrown _ h) rfl rfl gL_law_X1_area rfl (by decide +kernel) ⟨Nat.le_of_ble_eq_true rfl, Nat.le_of_ble_eq_true rfl⟩ rfl (av := [.int (xs (i + (1 : Int32)).toNatClampNeg)]) (b := U 0) (ci := 1) (q0 := 0) rfl rfl rfl (Nat.le_of_ble_eq_true rfl) [18, 19, 20, 21, 22, 23, 24] [0, 1, 2, 3, 4, 5, 6, 7, 8, 9, 10, 11, 12, 13, 14, 15, 16, 17, 25] (wr := (((wX0 cI cJ cZ cA V land there near worn trial fits ways) ++ wJ cI cA (V 7) (fun k => V (k + 8)) joined) ++ [(ao, .inl (cJ, 1, .inr (.inl out_5001)))])) rfl rfl rfl rfl (by decide) dL_law_437 ⟨by show _ ≤ 601024; omega, by show _ ≤ 7293034; omega⟩ (fun r5007 u9 h => ?_)
  obtain ⟨mcells_5003, mnear_5004, mthere_5005, mthrown_5006⟩ := u9
  refine x_wsub (ws' := (wLaw cI cJ cZ cA V U land there near worn trial fits ways joined mcel mtint mcells_5003 mnear_5004 mthere_5005 mways mmore mthrown_5006 ao out_5001)) [0, 1, 2, 3, 4, 5, 6, 7, 8, 9, 10, 11, 12, 13, 14, 15, 16, 17, 19, 20, 21, 22, 23, 24, 25, 18] rfl rfl ?_
  refine x_istore (lv' := [(0, .ref b), (1, .ref (V 0)), (2, .ref (U 0)), (3, .ref ao), (4, .int i), (5, .int k5002), (6, .int r5007)]) (pc := 440) K dL_law_440 (by decide) rfl ?_
  refine x_aload_n (pc := 442) K dL_law_442 2 rfl rfl ?_
  refine x_callVi (pc := 443) (n := 0) K (c_X1_thrown l D cI cJ cZ cA U mcel mtint mcells_5003 mnear_5004 mthere_5005 mways mmore mthrown_5006 _ h) rfl rfl gL_law_X1_thrown rfl (by decide +kernel) ⟨Nat.le_of_ble_eq_true rfl, Nat.le_of_ble_eq_true rfl⟩ rfl (av := []) (b := U 0) (ci := 1) (q0 := 0) rfl rfl rfl (Nat.le_of_ble_eq_true rfl) [18, 19, 20, 21, 22, 23, 24] [0, 1, 2, 3, 4, 5, 6, 7, 8, 9, 10, 11, 12, 13, 14, 15, 16, 17, 25] (wr := (((wX0 cI cJ cZ cA V land there near worn trial fits ways) ++ wJ cI cA (V 7) (fun k => V (k + 8)) joined) ++ [(ao, .inl (cJ, 1, .inr (.inl out_5001)))])) rfl rfl rfl rfl (by decide) dL_law_443 ⟨by show _ ≤ 601024; omega, by show _ ≤ 7293034; omega⟩ (fun r5008 _ h => ?_)
  refine x_wsub (ws' := (wLaw cI cJ cZ cA V U land there near worn trial fits ways joined mcel mtint mcells_5003 mnear_5004 mthere_5005 mways mmore mthrown_5006 ao out_5001)) [0, 1, 2, 3, 4, 5, 6, 7, 8, 9, 10, 11, 12, 13, 14, 15, 16, 17, 19, 20, 21, 22, 23, 24, 25, 18] rfl rfl ?_
  refine x_iload (pc := 446) K dL_law_446 5 rfl ?_
  refine x_icmp_eq (pc := 448) K dL_law_448 (tgt := 453) (by decide) (fun c9 => ?_) (fun c9 => ?_)
  · have h := h.1 c9
    refine x_iload (pc := 453) K dL_law_453 5 rfl ?_
    refine x_if_ne (pc := 455) K dL_law_455 (tgt := 470) (by decide) (fun c9 => ?_) (fun c9 => ?_)
    · have h := h.1 c9
      refine x_goto (pc := 470) K dL_law_470 (tgt := 1310) (by decide) ?_
      refine x_iinc (v := i + (6 : Int32)) (lv' := [(0, .ref b), (1, .ref (V 0)), (2, .ref (U 0)), (3, .ref ao), (4, .int (i + (6 : Int32))), (5, .int k5002), (6, .int r5007)]) (pc := 1310) K dL_law_1310 (k := 4) rfl rfl (by decide) rfl ?_
      refine x_goto (pc := 1313) K dL_law_1313 (tgt := 23) (by decide) ?_
      refine x_keep [true, true, true, true, true, false, false] rfl ?_
      exact ih (i + (6 : Int32)) land there near worn trial fits ways joined mcel mtint mcells_5003 mnear_5004 mthere_5005 mways mmore mthrown_5006 out_5001 _ _ (by omega) (by omega) h
    · have h := h.2 c9
      refine x_aload_n (pc := 458) K dL_law_458 3 rfl rfl ?_
      refine x_iconst (v := 0) (pc := 459) K dL_law_459 (by decide) ?_
      refine x_lald (pc := 460) K 25 1 rfl rfl (by decide) dL_law_460 ?_
      refine x_iload (pc := 461) K dL_law_461 6 rfl ?_
      refine x_i2l (pc := 463) K dL_law_463 ?_
      refine x_lcmp (pc := 464) K dL_law_464 ?_
      refine x_if_eq (pc := 465) K dL_law_465 (tgt := 470) (by decide) (fun c9 => ?_) (fun c9 => ?_)
      · have h := h.1 c9
        refine x_goto (pc := 470) K dL_law_470 (tgt := 1310) (by decide) ?_
        refine x_iinc (v := i + (6 : Int32)) (lv' := [(0, .ref b), (1, .ref (V 0)), (2, .ref (U 0)), (3, .ref ao), (4, .int (i + (6 : Int32))), (5, .int k5002), (6, .int r5007)]) (pc := 1310) K dL_law_1310 (k := 4) rfl rfl (by decide) rfl ?_
        refine x_goto (pc := 1313) K dL_law_1313 (tgt := 23) (by decide) ?_
        refine x_keep [true, true, true, true, true, false, false] rfl ?_
        exact ih (i + (6 : Int32)) land there near worn trial fits ways joined mcel mtint mcells_5003 mnear_5004 mthere_5005 mways mmore mthrown_5006 out_5001 _ _ (by omega) (by omega) h
      · have h := h.2 c9
        refine x_iconst (v := 0) (pc := 468) K dL_law_468 (by decide) ?_
        exact h.elim
  · have h := h.2 c9
    refine x_iconst (v := 0) (pc := 451) K dL_law_451 (by decide) ?_
    exact h.elim
set_option maxHeartbeats 4000000 in
set_option maxRecDepth 100000 in
theorem w_L_case5 {X : xC} {l : Launch} {D : va_G} {cI cJ cZ cA : ClassId} {V U : Nat → Nat} {ao b L : Nat} {xs : Nat → Int32} (hst : l.stackTraces = false) (K : xk X l room_1 D vwCl (xtys cI cJ cZ cA) cL_law RL wsL_law 8) (hE : xEx X RX0 [(61, "the block ends before it begins"), (180, "there is no such row or column"), (183, "there is no such country"), (185, "neither a country nor sea"), (187, "there is no such tint"), (189, "there are not so many tints"), (193, "the country is not there or has no tint")]) (hN : xno X) (hsc : xsc X b L xs) {n : Nat} (rec9 : Int32 → (Nat → Int64) → Int32 → (Nat → Int32) → (Nat → Int32) → (Nat → Int32) → (Nat → Int32) → (Nat → Int64) → (Nat → Nat → Int32) → (Nat → Int32) → (Nat → Int32) → (Nat → Int64) → (Nat → Int32) → Int32 → (Nat → Int64) → (Nat → Int64) → Int32 → (Nat → Int64) → Prop) (ih : ∀ (i : Int32) (land : Nat → Int64) (there : Int32) (near : Nat → Int32) (worn : Nat → Int32) (trial : Nat → Int32) (fits : Nat → Int32) (ways : Nat → Int64) (joined : Nat → Nat → Int32) (mcel : Nat → Int32) (mtint : Nat → Int32) (mcells : Nat → Int64) (mnear : Nat → Int32) (mthere : Int32) (mways : Nat → Int64) (mmore : Nat → Int64) (mthrown : Int32) (out : Nat → Int64) (c9 s9 : Nat), c9 + 4 * n ≤ 601024 → s9 + 24 * n ≤ 7293034 → rec9 i land there near worn trial fits ways joined mcel mtint mcells mnear mthere mways mmore mthrown out → xw X c9 s9 23 [(0, .ref b), (1, .ref (V 0)), (2, .ref (U 0)), (3, .ref ao), (4, .int i)] [] (wLaw cI cJ cZ cA V U land there near worn trial fits ways joined mcel mtint mcells mnear mthere mways mmore mthrown ao out)) (i : Int32) (land : Nat → Int64) (there : Int32) (near : Nat → Int32) (worn : Nat → Int32) (trial : Nat → Int32) (fits : Nat → Int32) (ways : Nat → Int64) (joined : Nat → Nat → Int32) (mcel : Nat → Int32) (mtint : Nat → Int32) (mcells : Nat → Int64) (mnear : Nat → Int32) (mthere : Int32) (mways : Nat → Int64) (mmore : Nat → Int64) (mthrown : Int32) (out : Nat → Int64) (c9 s9 : Nat) (hc : c9 + 4 * (n + 1) ≤ 601024) (hs : s9 + 24 * (n + 1) ≤ 7293034) (h : q_L_case5 L xs rec9 i land there near worn trial fits ways joined mcel mtint mcells mnear mthere mways mmore mthrown out) : xw X c9 s9 473 [(0, .ref b), (1, .ref (V 0)), (2, .ref (U 0)), (3, .ref ao), (4, .int i)] [] (wLaw cI cJ cZ cA V U land there near worn trial fits ways joined mcel mtint mcells mnear mthere mways mmore mthrown ao out) := by
  unfold q_L_case5 at h
  refine x_aload_n (pc := 473) K dL_law_473 1 rfl rfl ?_
  refine x_aload_n (pc := 474) K dL_law_474 0 rfl rfl ?_
  refine x_iload (pc := 475) K dL_law_475 4 rfl ?_
  refine x_iconst (v := 1) (pc := 477) K dL_law_477 (by decide) ?_
  refine x_iadd (pc := 478) K dL_law_478 ?_
  have g9 := h.1
  replace h := h.2
  refine x_sld (pc := 479) K hsc g9 dL_law_479 ?_
  clear g9
  refine x_aload_n (pc := 480) K dL_law_480 3 rfl rfl ?_
  refine x_hcallS (pc := 481) (n := 3) K hE hN (by decide) (c_L_pieces l D cI cJ cZ cA hst V ao (xs (i + (1 : Int32)).toNatClampNeg) land there near worn trial fits ways joined out _ h) rfl rfl gL_law_L_pieces (hh := [(0, 9, 12, 13)]) rfl (by decide +kernel) ⟨Nat.le_of_ble_eq_true rfl, Nat.le_of_ble_eq_true rfl⟩ rfl (av := [.ref (V 0), .int (xs (i + (1 : Int32)).toNatClampNeg), .ref ao]) rfl (Nat.le_of_ble_eq_true rfl) [0, 1, 2, 3, 4, 5, 6, 7, 8, 9, 10, 11, 12, 13, 14, 15, 16, 17, 25] [18, 19, 20, 21, 22, 23, 24] (wr := (wX1 cI cJ cZ cA U mcel mtint mcells mnear mthere mways mmore mthrown)) rfl rfl rfl rfl (by decide) dL_law_481 ⟨by show _ ≤ 601024; omega, by show _ ≤ 7293034; omega⟩ (fun k6002 out_6001 h => ?_)
  refine x_wsub (ws' := (wLaw cI cJ cZ cA V U land there near worn trial fits ways joined mcel mtint mcells mnear mthere mways mmore mthrown ao out_6001)) [7, 8, 9, 10, 11, 12, 13, 14, 15, 16, 17, 18, 19, 20, 21, 22, 23, 24, 0, 1, 2, 3, 4, 5, 6, 25] rfl rfl ?_
  refine x_istore (lv' := [(0, .ref b), (1, .ref (V 0)), (2, .ref (U 0)), (3, .ref ao), (4, .int i), (5, .int k6002)]) (pc := 484) K dL_law_484 (by decide) rfl ?_
  refine x_aload_n (pc := 486) K dL_law_486 2 rfl rfl ?_
  refine x_aload_n (pc := 487) K dL_law_487 0 rfl rfl ?_
  refine x_iload (pc := 488) K dL_law_488 4 rfl ?_
  refine x_iconst (v := 1) (pc := 490) K dL_law_490 (by decide) ?_
  refine x_iadd (pc := 491) K dL_law_491 ?_
  have g9 := h.1
  replace h := h.2
  refine x_sld (pc := 492) K hsc g9 dL_law_492 ?_
  clear g9
  refine x_callVi (pc := 493) (n := 1) K (c_X1_pieces l D cI cJ cZ cA U (xs (i + (1 : Int32)).toNatClampNeg) mcel mtint mcells mnear mthere mways mmore mthrown _ h) rfl rfl gL_law_X1_pieces rfl (by decide +kernel) ⟨Nat.le_of_ble_eq_true rfl, Nat.le_of_ble_eq_true rfl⟩ rfl (av := [.int (xs (i + (1 : Int32)).toNatClampNeg)]) (b := U 0) (ci := 1) (q0 := 0) rfl rfl rfl (Nat.le_of_ble_eq_true rfl) [18, 19, 20, 21, 22, 23, 24] [0, 1, 2, 3, 4, 5, 6, 7, 8, 9, 10, 11, 12, 13, 14, 15, 16, 17, 25] (wr := (((wX0 cI cJ cZ cA V land there near worn trial fits ways) ++ wJ cI cA (V 7) (fun k => V (k + 8)) joined) ++ [(ao, .inl (cJ, 1, .inr (.inl out_6001)))])) rfl rfl rfl rfl (by decide) dL_law_493 ⟨by show _ ≤ 601024; omega, by show _ ≤ 7293034; omega⟩ (fun r6007 u9 h => ?_)
  obtain ⟨mcells_6003, mnear_6004, mthere_6005, mthrown_6006⟩ := u9
  refine x_wsub (ws' := (wLaw cI cJ cZ cA V U land there near worn trial fits ways joined mcel mtint mcells_6003 mnear_6004 mthere_6005 mways mmore mthrown_6006 ao out_6001)) [0, 1, 2, 3, 4, 5, 6, 7, 8, 9, 10, 11, 12, 13, 14, 15, 16, 17, 19, 20, 21, 22, 23, 24, 25, 18] rfl rfl ?_
  refine x_istore (lv' := [(0, .ref b), (1, .ref (V 0)), (2, .ref (U 0)), (3, .ref ao), (4, .int i), (5, .int k6002), (6, .int r6007)]) (pc := 496) K dL_law_496 (by decide) rfl ?_
  refine x_aload_n (pc := 498) K dL_law_498 2 rfl rfl ?_
  refine x_callVi (pc := 499) (n := 0) K (c_X1_thrown l D cI cJ cZ cA U mcel mtint mcells_6003 mnear_6004 mthere_6005 mways mmore mthrown_6006 _ h) rfl rfl gL_law_X1_thrown rfl (by decide +kernel) ⟨Nat.le_of_ble_eq_true rfl, Nat.le_of_ble_eq_true rfl⟩ rfl (av := []) (b := U 0) (ci := 1) (q0 := 0) rfl rfl rfl (Nat.le_of_ble_eq_true rfl) [18, 19, 20, 21, 22, 23, 24] [0, 1, 2, 3, 4, 5, 6, 7, 8, 9, 10, 11, 12, 13, 14, 15, 16, 17, 25] (wr := (((wX0 cI cJ cZ cA V land there near worn trial fits ways) ++ wJ cI cA (V 7) (fun k => V (k + 8)) joined) ++ [(ao, .inl (cJ, 1, .inr (.inl out_6001)))])) rfl rfl rfl rfl (by decide) dL_law_499 ⟨by show _ ≤ 601024; omega, by show _ ≤ 7293034; omega⟩ (fun r6008 _ h => ?_)
  refine x_wsub (ws' := (wLaw cI cJ cZ cA V U land there near worn trial fits ways joined mcel mtint mcells_6003 mnear_6004 mthere_6005 mways mmore mthrown_6006 ao out_6001)) [0, 1, 2, 3, 4, 5, 6, 7, 8, 9, 10, 11, 12, 13, 14, 15, 16, 17, 19, 20, 21, 22, 23, 24, 25, 18] rfl rfl ?_
  refine x_iload (pc := 502) K dL_law_502 5 rfl ?_
  refine x_icmp_eq (pc := 504) K dL_law_504 (tgt := 509) (by decide) (fun c9 => ?_) (fun c9 => ?_)
  · have h := h.1 c9
    refine x_iload (pc := 509) K dL_law_509 5 rfl ?_
    refine x_if_ne (pc := 511) K dL_law_511 (tgt := 526) (by decide) (fun c9 => ?_) (fun c9 => ?_)
    · have h := h.1 c9
      refine x_goto (pc := 526) K dL_law_526 (tgt := 1310) (by decide) ?_
      refine x_iinc (v := i + (6 : Int32)) (lv' := [(0, .ref b), (1, .ref (V 0)), (2, .ref (U 0)), (3, .ref ao), (4, .int (i + (6 : Int32))), (5, .int k6002), (6, .int r6007)]) (pc := 1310) K dL_law_1310 (k := 4) rfl rfl (by decide) rfl ?_
      refine x_goto (pc := 1313) K dL_law_1313 (tgt := 23) (by decide) ?_
      refine x_keep [true, true, true, true, true, false, false] rfl ?_
      exact ih (i + (6 : Int32)) land there near worn trial fits ways joined mcel mtint mcells_6003 mnear_6004 mthere_6005 mways mmore mthrown_6006 out_6001 _ _ (by omega) (by omega) h
    · have h := h.2 c9
      refine x_aload_n (pc := 514) K dL_law_514 3 rfl rfl ?_
      refine x_iconst (v := 0) (pc := 515) K dL_law_515 (by decide) ?_
      refine x_lald (pc := 516) K 25 1 rfl rfl (by decide) dL_law_516 ?_
      refine x_iload (pc := 517) K dL_law_517 6 rfl ?_
      refine x_i2l (pc := 519) K dL_law_519 ?_
      refine x_lcmp (pc := 520) K dL_law_520 ?_
      refine x_if_eq (pc := 521) K dL_law_521 (tgt := 526) (by decide) (fun c9 => ?_) (fun c9 => ?_)
      · have h := h.1 c9
        refine x_goto (pc := 526) K dL_law_526 (tgt := 1310) (by decide) ?_
        refine x_iinc (v := i + (6 : Int32)) (lv' := [(0, .ref b), (1, .ref (V 0)), (2, .ref (U 0)), (3, .ref ao), (4, .int (i + (6 : Int32))), (5, .int k6002), (6, .int r6007)]) (pc := 1310) K dL_law_1310 (k := 4) rfl rfl (by decide) rfl ?_
        refine x_goto (pc := 1313) K dL_law_1313 (tgt := 23) (by decide) ?_
        refine x_keep [true, true, true, true, true, false, false] rfl ?_
        exact ih (i + (6 : Int32)) land there near worn trial fits ways joined mcel mtint mcells_6003 mnear_6004 mthere_6005 mways mmore mthrown_6006 out_6001 _ _ (by omega) (by omega) h
      · have h := h.2 c9
        refine x_iconst (v := 0) (pc := 524) K dL_law_524 (by decide) ?_
        exact h.elim
  · have h := h.2 c9
    refine x_iconst (v := 0) (pc := 507) K dL_law_507 (by decide) ?_
    exact h.elim
set_option maxHeartbeats 4000000 in
set_option maxRecDepth 100000 in
theorem w_L_case6 {X : xC} {l : Launch} {D : va_G} {cI cJ cZ cA : ClassId} {V U : Nat → Nat} {ao b L : Nat} {xs : Nat → Int32} (hst : l.stackTraces = false) (K : xk X l room_1 D vwCl (xtys cI cJ cZ cA) cL_law RL wsL_law 8) (hE : xEx X RX0 [(61, "the block ends before it begins"), (180, "there is no such row or column"), (183, "there is no such country"), (185, "neither a country nor sea"), (187, "there is no such tint"), (189, "there are not so many tints"), (193, "the country is not there or has no tint")]) (hN : xno X) (hsc : xsc X b L xs) {n : Nat} (rec9 : Int32 → (Nat → Int64) → Int32 → (Nat → Int32) → (Nat → Int32) → (Nat → Int32) → (Nat → Int32) → (Nat → Int64) → (Nat → Nat → Int32) → (Nat → Int32) → (Nat → Int32) → (Nat → Int64) → (Nat → Int32) → Int32 → (Nat → Int64) → (Nat → Int64) → Int32 → (Nat → Int64) → Prop) (ih : ∀ (i : Int32) (land : Nat → Int64) (there : Int32) (near : Nat → Int32) (worn : Nat → Int32) (trial : Nat → Int32) (fits : Nat → Int32) (ways : Nat → Int64) (joined : Nat → Nat → Int32) (mcel : Nat → Int32) (mtint : Nat → Int32) (mcells : Nat → Int64) (mnear : Nat → Int32) (mthere : Int32) (mways : Nat → Int64) (mmore : Nat → Int64) (mthrown : Int32) (out : Nat → Int64) (c9 s9 : Nat), c9 + 4 * n ≤ 601024 → s9 + 24 * n ≤ 7293034 → rec9 i land there near worn trial fits ways joined mcel mtint mcells mnear mthere mways mmore mthrown out → xw X c9 s9 23 [(0, .ref b), (1, .ref (V 0)), (2, .ref (U 0)), (3, .ref ao), (4, .int i)] [] (wLaw cI cJ cZ cA V U land there near worn trial fits ways joined mcel mtint mcells mnear mthere mways mmore mthrown ao out)) (i : Int32) (land : Nat → Int64) (there : Int32) (near : Nat → Int32) (worn : Nat → Int32) (trial : Nat → Int32) (fits : Nat → Int32) (ways : Nat → Int64) (joined : Nat → Nat → Int32) (mcel : Nat → Int32) (mtint : Nat → Int32) (mcells : Nat → Int64) (mnear : Nat → Int32) (mthere : Int32) (mways : Nat → Int64) (mmore : Nat → Int64) (mthrown : Int32) (out : Nat → Int64) (c9 s9 : Nat) (hc : c9 + 4 * (n + 1) ≤ 601024) (hs : s9 + 24 * (n + 1) ≤ 7293034) (h : q_L_case6 L xs rec9 i land there near worn trial fits ways joined mcel mtint mcells mnear mthere mways mmore mthrown out) : xw X c9 s9 529 [(0, .ref b), (1, .ref (V 0)), (2, .ref (U 0)), (3, .ref ao), (4, .int i)] [] (wLaw cI cJ cZ cA V U land there near worn trial fits ways joined mcel mtint mcells mnear mthere mways mmore mthrown ao out) := by
  unfold q_L_case6 at h
  refine x_aload_n (pc := 529) K dL_law_529 1 rfl rfl ?_
  refine x_aload_n (pc := 530) K dL_law_530 0 rfl rfl ?_
  refine x_iload (pc := 531) K dL_law_531 4 rfl ?_
  refine x_iconst (v := 1) (pc := 533) K dL_law_533 (by decide) ?_
  refine x_iadd (pc := 534) K dL_law_534 ?_
  have g9 := h.1
  replace h := h.2
  refine x_sld (pc := 535) K hsc g9 dL_law_535 ?_
  clear g9
  refine x_aload_n (pc := 536) K dL_law_536 3 rfl rfl ?_
  refine x_hcallS (pc := 537) (n := 3) K hE hN (by decide) (c_L_largestPiece l D cI cJ cZ cA hst V ao (xs (i + (1 : Int32)).toNatClampNeg) land there near worn trial fits ways joined out _ h) rfl rfl gL_law_L_largestPiece (hh := [(0, 9, 12, 13)]) rfl (by decide +kernel) ⟨Nat.le_of_ble_eq_true rfl, Nat.le_of_ble_eq_true rfl⟩ rfl (av := [.ref (V 0), .int (xs (i + (1 : Int32)).toNatClampNeg), .ref ao]) rfl (Nat.le_of_ble_eq_true rfl) [0, 1, 2, 3, 4, 5, 6, 7, 8, 9, 10, 11, 12, 13, 14, 15, 16, 17, 25] [18, 19, 20, 21, 22, 23, 24] (wr := (wX1 cI cJ cZ cA U mcel mtint mcells mnear mthere mways mmore mthrown)) rfl rfl rfl rfl (by decide) dL_law_537 ⟨by show _ ≤ 601024; omega, by show _ ≤ 7293034; omega⟩ (fun k7002 out_7001 h => ?_)
  refine x_wsub (ws' := (wLaw cI cJ cZ cA V U land there near worn trial fits ways joined mcel mtint mcells mnear mthere mways mmore mthrown ao out_7001)) [7, 8, 9, 10, 11, 12, 13, 14, 15, 16, 17, 18, 19, 20, 21, 22, 23, 24, 0, 1, 2, 3, 4, 5, 6, 25] rfl rfl ?_
  refine x_istore (lv' := [(0, .ref b), (1, .ref (V 0)), (2, .ref (U 0)), (3, .ref ao), (4, .int i), (5, .int k7002)]) (pc := 540) K dL_law_540 (by decide) rfl ?_
  refine x_aload_n (pc := 542) K dL_law_542 2 rfl rfl ?_
  refine x_aload_n (pc := 543) K dL_law_543 0 rfl rfl ?_
  refine x_iload (pc := 544) K dL_law_544 4 rfl ?_
  refine x_iconst (v := 1) (pc := 546) K dL_law_546 (by decide) ?_
  refine x_iadd (pc := 547) K dL_law_547 ?_
  have g9 := h.1
  replace h := h.2
  refine x_sld (pc := 548) K hsc g9 dL_law_548 ?_
  clear g9
  refine x_callVi (pc := 549) (n := 1) K (c_X1_largestPiece l D cI cJ cZ cA U (xs (i + (1 : Int32)).toNatClampNeg) mcel mtint mcells mnear mthere mways mmore mthrown _ h) rfl rfl gL_law_X1_largestPiece rfl (by decide +kernel) ⟨Nat.le_of_ble_eq_true rfl, Nat.le_of_ble_eq_true rfl⟩ rfl (av := [.int (xs (i + (1 : Int32)).toNatClampNeg)]) (b := U 0) (ci := 1) (q0 := 0) rfl rfl rfl (Nat.le_of_ble_eq_true rfl) [18, 19, 20, 21, 22, 23, 24] [0, 1, 2, 3, 4, 5, 6, 7, 8, 9, 10, 11, 12, 13, 14, 15, 16, 17, 25] (wr := (((wX0 cI cJ cZ cA V land there near worn trial fits ways) ++ wJ cI cA (V 7) (fun k => V (k + 8)) joined) ++ [(ao, .inl (cJ, 1, .inr (.inl out_7001)))])) rfl rfl rfl rfl (by decide) dL_law_549 ⟨by show _ ≤ 601024; omega, by show _ ≤ 7293034; omega⟩ (fun r7007 u9 h => ?_)
  obtain ⟨mcells_7003, mnear_7004, mthere_7005, mthrown_7006⟩ := u9
  refine x_wsub (ws' := (wLaw cI cJ cZ cA V U land there near worn trial fits ways joined mcel mtint mcells_7003 mnear_7004 mthere_7005 mways mmore mthrown_7006 ao out_7001)) [0, 1, 2, 3, 4, 5, 6, 7, 8, 9, 10, 11, 12, 13, 14, 15, 16, 17, 19, 20, 21, 22, 23, 24, 25, 18] rfl rfl ?_
  refine x_istore (lv' := [(0, .ref b), (1, .ref (V 0)), (2, .ref (U 0)), (3, .ref ao), (4, .int i), (5, .int k7002), (6, .int r7007)]) (pc := 552) K dL_law_552 (by decide) rfl ?_
  refine x_aload_n (pc := 554) K dL_law_554 2 rfl rfl ?_
  refine x_callVi (pc := 555) (n := 0) K (c_X1_thrown l D cI cJ cZ cA U mcel mtint mcells_7003 mnear_7004 mthere_7005 mways mmore mthrown_7006 _ h) rfl rfl gL_law_X1_thrown rfl (by decide +kernel) ⟨Nat.le_of_ble_eq_true rfl, Nat.le_of_ble_eq_true rfl⟩ rfl (av := []) (b := U 0) (ci := 1) (q0 := 0) rfl rfl rfl (Nat.le_of_ble_eq_true rfl) [18, 19, 20, 21, 22, 23, 24] [0, 1, 2, 3, 4, 5, 6, 7, 8, 9, 10, 11, 12, 13, 14, 15, 16, 17, 25] (wr := (((wX0 cI cJ cZ cA V land there near worn trial fits ways) ++ wJ cI cA (V 7) (fun k => V (k + 8)) joined) ++ [(ao, .inl (cJ, 1, .inr (.inl out_7001)))])) rfl rfl rfl rfl (by decide) dL_law_555 ⟨by show _ ≤ 601024; omega, by show _ ≤ 7293034; omega⟩ (fun r7008 _ h => ?_)
  refine x_wsub (ws' := (wLaw cI cJ cZ cA V U land there near worn trial fits ways joined mcel mtint mcells_7003 mnear_7004 mthere_7005 mways mmore mthrown_7006 ao out_7001)) [0, 1, 2, 3, 4, 5, 6, 7, 8, 9, 10, 11, 12, 13, 14, 15, 16, 17, 19, 20, 21, 22, 23, 24, 25, 18] rfl rfl ?_
  refine x_iload (pc := 558) K dL_law_558 5 rfl ?_
  refine x_icmp_eq (pc := 560) K dL_law_560 (tgt := 565) (by decide) (fun c9 => ?_) (fun c9 => ?_)
  · have h := h.1 c9
    refine x_iload (pc := 565) K dL_law_565 5 rfl ?_
    refine x_if_ne (pc := 567) K dL_law_567 (tgt := 582) (by decide) (fun c9 => ?_) (fun c9 => ?_)
    · have h := h.1 c9
      refine x_goto (pc := 582) K dL_law_582 (tgt := 1310) (by decide) ?_
      refine x_iinc (v := i + (6 : Int32)) (lv' := [(0, .ref b), (1, .ref (V 0)), (2, .ref (U 0)), (3, .ref ao), (4, .int (i + (6 : Int32))), (5, .int k7002), (6, .int r7007)]) (pc := 1310) K dL_law_1310 (k := 4) rfl rfl (by decide) rfl ?_
      refine x_goto (pc := 1313) K dL_law_1313 (tgt := 23) (by decide) ?_
      refine x_keep [true, true, true, true, true, false, false] rfl ?_
      exact ih (i + (6 : Int32)) land there near worn trial fits ways joined mcel mtint mcells_7003 mnear_7004 mthere_7005 mways mmore mthrown_7006 out_7001 _ _ (by omega) (by omega) h
    · have h := h.2 c9
      refine x_aload_n (pc := 570) K dL_law_570 3 rfl rfl ?_
      refine x_iconst (v := 0) (pc := 571) K dL_law_571 (by decide) ?_
      refine x_lald (pc := 572) K 25 1 rfl rfl (by decide) dL_law_572 ?_
      refine x_iload (pc := 573) K dL_law_573 6 rfl ?_
      refine x_i2l (pc := 575) K dL_law_575 ?_
      refine x_lcmp (pc := 576) K dL_law_576 ?_
      refine x_if_eq (pc := 577) K dL_law_577 (tgt := 582) (by decide) (fun c9 => ?_) (fun c9 => ?_)
      · have h := h.1 c9
        refine x_goto (pc := 582) K dL_law_582 (tgt := 1310) (by decide) ?_
        refine x_iinc (v := i + (6 : Int32)) (lv' := [(0, .ref b), (1, .ref (V 0)), (2, .ref (U 0)), (3, .ref ao), (4, .int (i + (6 : Int32))), (5, .int k7002), (6, .int r7007)]) (pc := 1310) K dL_law_1310 (k := 4) rfl rfl (by decide) rfl ?_
        refine x_goto (pc := 1313) K dL_law_1313 (tgt := 23) (by decide) ?_
        refine x_keep [true, true, true, true, true, false, false] rfl ?_
        exact ih (i + (6 : Int32)) land there near worn trial fits ways joined mcel mtint mcells_7003 mnear_7004 mthere_7005 mways mmore mthrown_7006 out_7001 _ _ (by omega) (by omega) h
      · have h := h.2 c9
        refine x_iconst (v := 0) (pc := 580) K dL_law_580 (by decide) ?_
        exact h.elim
  · have h := h.2 c9
    refine x_iconst (v := 0) (pc := 563) K dL_law_563 (by decide) ?_
    exact h.elim
set_option maxHeartbeats 4000000 in
set_option maxRecDepth 100000 in
theorem w_L_case7 {X : xC} {l : Launch} {D : va_G} {cI cJ cZ cA : ClassId} {V U : Nat → Nat} {ao b L : Nat} {xs : Nat → Int32} (hst : l.stackTraces = false) (K : xk X l room_1 D vwCl (xtys cI cJ cZ cA) cL_law RL wsL_law 8) (hE : xEx X RX0 [(61, "the block ends before it begins"), (180, "there is no such row or column"), (183, "there is no such country"), (185, "neither a country nor sea"), (187, "there is no such tint"), (189, "there are not so many tints"), (193, "the country is not there or has no tint")]) (hN : xno X) (hsc : xsc X b L xs) {n : Nat} (rec9 : Int32 → (Nat → Int64) → Int32 → (Nat → Int32) → (Nat → Int32) → (Nat → Int32) → (Nat → Int32) → (Nat → Int64) → (Nat → Nat → Int32) → (Nat → Int32) → (Nat → Int32) → (Nat → Int64) → (Nat → Int32) → Int32 → (Nat → Int64) → (Nat → Int64) → Int32 → (Nat → Int64) → Prop) (ih : ∀ (i : Int32) (land : Nat → Int64) (there : Int32) (near : Nat → Int32) (worn : Nat → Int32) (trial : Nat → Int32) (fits : Nat → Int32) (ways : Nat → Int64) (joined : Nat → Nat → Int32) (mcel : Nat → Int32) (mtint : Nat → Int32) (mcells : Nat → Int64) (mnear : Nat → Int32) (mthere : Int32) (mways : Nat → Int64) (mmore : Nat → Int64) (mthrown : Int32) (out : Nat → Int64) (c9 s9 : Nat), c9 + 4 * n ≤ 601024 → s9 + 24 * n ≤ 7293034 → rec9 i land there near worn trial fits ways joined mcel mtint mcells mnear mthere mways mmore mthrown out → xw X c9 s9 23 [(0, .ref b), (1, .ref (V 0)), (2, .ref (U 0)), (3, .ref ao), (4, .int i)] [] (wLaw cI cJ cZ cA V U land there near worn trial fits ways joined mcel mtint mcells mnear mthere mways mmore mthrown ao out)) (i : Int32) (land : Nat → Int64) (there : Int32) (near : Nat → Int32) (worn : Nat → Int32) (trial : Nat → Int32) (fits : Nat → Int32) (ways : Nat → Int64) (joined : Nat → Nat → Int32) (mcel : Nat → Int32) (mtint : Nat → Int32) (mcells : Nat → Int64) (mnear : Nat → Int32) (mthere : Int32) (mways : Nat → Int64) (mmore : Nat → Int64) (mthrown : Int32) (out : Nat → Int64) (c9 s9 : Nat) (hc : c9 + 4 * (n + 1) ≤ 601024) (hs : s9 + 24 * (n + 1) ≤ 7293034) (h : q_L_case7 L xs rec9 i land there near worn trial fits ways joined mcel mtint mcells mnear mthere mways mmore mthrown out) : xw X c9 s9 585 [(0, .ref b), (1, .ref (V 0)), (2, .ref (U 0)), (3, .ref ao), (4, .int i)] [] (wLaw cI cJ cZ cA V U land there near worn trial fits ways joined mcel mtint mcells mnear mthere mways mmore mthrown ao out) := by
  unfold q_L_case7 at h
  refine x_aload_n (pc := 585) K dL_law_585 1 rfl rfl ?_
  refine x_callVi (pc := 586) (n := 0) K (c_X0_scattered l D cI cJ cZ cA V land there near worn trial fits ways _ h) rfl rfl gL_law_X0_scattered rfl (by decide +kernel) ⟨Nat.le_of_ble_eq_true rfl, Nat.le_of_ble_eq_true rfl⟩ rfl (av := []) (b := V 0) (ci := 0) (q0 := 0) rfl rfl rfl (Nat.le_of_ble_eq_true rfl) [0, 1, 2, 3, 4, 5, 6] [7, 8, 9, 10, 11, 12, 13, 14, 15, 16, 17, 18, 19, 20, 21, 22, 23, 24, 25] (wr := ((wJ cI cA (V 7) (fun k => V (k + 8)) joined ++ wX1 cI cJ cZ cA U mcel mtint mcells mnear mthere mways mmore mthrown) ++ [(ao, .inl (cJ, 1, .inr (.inl out)))])) rfl rfl rfl rfl (by decide) dL_law_586 ⟨by show _ ≤ 601024; omega, by show _ ≤ 7293034; omega⟩ (fun r8001 _ h => ?_)
  refine x_wsub (ws' := (wLaw cI cJ cZ cA V U land there near worn trial fits ways joined mcel mtint mcells mnear mthere mways mmore mthrown ao out)) [19, 20, 21, 22, 23, 24, 25, 0, 1, 2, 3, 4, 5, 6, 7, 8, 9, 10, 11, 12, 13, 14, 15, 16, 17, 18] rfl rfl ?_
  refine x_aload_n (pc := 589) K dL_law_589 2 rfl rfl ?_
  refine x_callVi (pc := 590) (n := 0) K (c_X1_scattered l D cI cJ cZ cA U mcel mtint mcells mnear mthere mways mmore mthrown _ h) rfl rfl gL_law_X1_scattered rfl (by decide +kernel) ⟨Nat.le_of_ble_eq_true rfl, Nat.le_of_ble_eq_true rfl⟩ rfl (av := []) (b := U 0) (ci := 1) (q0 := 0) rfl rfl rfl (Nat.le_of_ble_eq_true rfl) [18, 19, 20, 21, 22, 23, 24] [0, 1, 2, 3, 4, 5, 6, 7, 8, 9, 10, 11, 12, 13, 14, 15, 16, 17, 25] (wr := (((wX0 cI cJ cZ cA V land there near worn trial fits ways) ++ wJ cI cA (V 7) (fun k => V (k + 8)) joined) ++ [(ao, .inl (cJ, 1, .inr (.inl out)))])) rfl rfl rfl rfl (by decide) dL_law_590 ⟨by show _ ≤ 601024; omega, by show _ ≤ 7293034; omega⟩ (fun r8006 u9 h => ?_)
  obtain ⟨mcells_8002, mnear_8003, mthere_8004, mthrown_8005⟩ := u9
  refine x_wsub (ws' := (wLaw cI cJ cZ cA V U land there near worn trial fits ways joined mcel mtint mcells_8002 mnear_8003 mthere_8004 mways mmore mthrown_8005 ao out)) [0, 1, 2, 3, 4, 5, 6, 7, 8, 9, 10, 11, 12, 13, 14, 15, 16, 17, 19, 20, 21, 22, 23, 24, 25, 18] rfl rfl ?_
  refine x_icmp_eq (pc := 593) K dL_law_593 (tgt := 1310) (by decide) (fun c9 => ?_) (fun c9 => ?_)
  · have h := h.1 c9
    refine x_iinc (v := i + (6 : Int32)) (lv' := [(0, .ref b), (1, .ref (V 0)), (2, .ref (U 0)), (3, .ref ao), (4, .int (i + (6 : Int32)))]) (pc := 1310) K dL_law_1310 (k := 4) rfl rfl (by decide) rfl ?_
    refine x_goto (pc := 1313) K dL_law_1313 (tgt := 23) (by decide) ?_
    exact ih (i + (6 : Int32)) land there near worn trial fits ways joined mcel mtint mcells_8002 mnear_8003 mthere_8004 mways mmore mthrown_8005 out _ _ (by omega) (by omega) h
  · have h := h.2 c9
    refine x_iconst (v := 0) (pc := 596) K dL_law_596 (by decide) ?_
    exact h.elim
set_option maxHeartbeats 4000000 in
set_option maxRecDepth 100000 in
theorem w_L_case8 {X : xC} {l : Launch} {D : va_G} {cI cJ cZ cA : ClassId} {V U : Nat → Nat} {ao b L : Nat} {xs : Nat → Int32} (hst : l.stackTraces = false) (K : xk X l room_1 D vwCl (xtys cI cJ cZ cA) cL_law RL wsL_law 8) (hE : xEx X RX0 [(61, "the block ends before it begins"), (180, "there is no such row or column"), (183, "there is no such country"), (185, "neither a country nor sea"), (187, "there is no such tint"), (189, "there are not so many tints"), (193, "the country is not there or has no tint")]) (hN : xno X) (hsc : xsc X b L xs) {n : Nat} (rec9 : Int32 → (Nat → Int64) → Int32 → (Nat → Int32) → (Nat → Int32) → (Nat → Int32) → (Nat → Int32) → (Nat → Int64) → (Nat → Nat → Int32) → (Nat → Int32) → (Nat → Int32) → (Nat → Int64) → (Nat → Int32) → Int32 → (Nat → Int64) → (Nat → Int64) → Int32 → (Nat → Int64) → Prop) (ih : ∀ (i : Int32) (land : Nat → Int64) (there : Int32) (near : Nat → Int32) (worn : Nat → Int32) (trial : Nat → Int32) (fits : Nat → Int32) (ways : Nat → Int64) (joined : Nat → Nat → Int32) (mcel : Nat → Int32) (mtint : Nat → Int32) (mcells : Nat → Int64) (mnear : Nat → Int32) (mthere : Int32) (mways : Nat → Int64) (mmore : Nat → Int64) (mthrown : Int32) (out : Nat → Int64) (c9 s9 : Nat), c9 + 4 * n ≤ 601024 → s9 + 24 * n ≤ 7293034 → rec9 i land there near worn trial fits ways joined mcel mtint mcells mnear mthere mways mmore mthrown out → xw X c9 s9 23 [(0, .ref b), (1, .ref (V 0)), (2, .ref (U 0)), (3, .ref ao), (4, .int i)] [] (wLaw cI cJ cZ cA V U land there near worn trial fits ways joined mcel mtint mcells mnear mthere mways mmore mthrown ao out)) (i : Int32) (land : Nat → Int64) (there : Int32) (near : Nat → Int32) (worn : Nat → Int32) (trial : Nat → Int32) (fits : Nat → Int32) (ways : Nat → Int64) (joined : Nat → Nat → Int32) (mcel : Nat → Int32) (mtint : Nat → Int32) (mcells : Nat → Int64) (mnear : Nat → Int32) (mthere : Int32) (mways : Nat → Int64) (mmore : Nat → Int64) (mthrown : Int32) (out : Nat → Int64) (c9 s9 : Nat) (hc : c9 + 4 * (n + 1) ≤ 601024) (hs : s9 + 24 * (n + 1) ≤ 7293034) (h : q_L_case8 L xs rec9 i land there near worn trial fits ways joined mcel mtint mcells mnear mthere mways mmore mthrown out) : xw X c9 s9 598 [(0, .ref b), (1, .ref (V 0)), (2, .ref (U 0)), (3, .ref ao), (4, .int i)] [] (wLaw cI cJ cZ cA V U land there near worn trial fits ways joined mcel mtint mcells mnear mthere mways mmore mthrown ao out) := by
  unfold q_L_case8 at h
  refine x_aload_n (pc := 598) K dL_law_598 1 rfl rfl ?_
  refine x_aload_n (pc := 599) K dL_law_599 0 rfl rfl ?_
  refine x_iload (pc := 600) K dL_law_600 4 rfl ?_
  refine x_iconst (v := 1) (pc := 602) K dL_law_602 (by decide) ?_
  refine x_iadd (pc := 603) K dL_law_603 ?_
  have g9 := h.1
  replace h := h.2
  refine x_sld (pc := 604) K hsc g9 dL_law_604 ?_
  clear g9
  refine x_aload_n (pc := 605) K dL_law_605 3 rfl rfl ?_
  refine x_hcallS (pc := 606) (n := 3) K hE hN (by decide) (c_L_neighbours l D cI cJ cZ cA hst V ao (xs (i + (1 : Int32)).toNatClampNeg) land there near worn trial fits ways joined out _ h) rfl rfl gL_law_L_neighbours (hh := [(0, 9, 12, 13)]) rfl (by decide +kernel) ⟨Nat.le_of_ble_eq_true rfl, Nat.le_of_ble_eq_true rfl⟩ rfl (av := [.ref (V 0), .int (xs (i + (1 : Int32)).toNatClampNeg), .ref ao]) rfl (Nat.le_of_ble_eq_true rfl) [0, 1, 2, 3, 4, 5, 6, 7, 8, 9, 10, 11, 12, 13, 14, 15, 16, 17, 25] [18, 19, 20, 21, 22, 23, 24] (wr := (wX1 cI cJ cZ cA U mcel mtint mcells mnear mthere mways mmore mthrown)) rfl rfl rfl rfl (by decide) dL_law_606 ⟨by show _ ≤ 601024; omega, by show _ ≤ 7293034; omega⟩ (fun k9002 out_9001 h => ?_)
  refine x_wsub (ws' := (wLaw cI cJ cZ cA V U land there near worn trial fits ways joined mcel mtint mcells mnear mthere mways mmore mthrown ao out_9001)) [7, 8, 9, 10, 11, 12, 13, 14, 15, 16, 17, 18, 19, 20, 21, 22, 23, 24, 0, 1, 2, 3, 4, 5, 6, 25] rfl rfl ?_
  refine x_istore (lv' := [(0, .ref b), (1, .ref (V 0)), (2, .ref (U 0)), (3, .ref ao), (4, .int i), (5, .int k9002)]) (pc := 609) K dL_law_609 (by decide) rfl ?_
  refine x_aload_n (pc := 611) K dL_law_611 2 rfl rfl ?_
  refine x_aload_n (pc := 612) K dL_law_612 0 rfl rfl ?_
  refine x_iload (pc := 613) K dL_law_613 4 rfl ?_
  refine x_iconst (v := 1) (pc := 615) K dL_law_615 (by decide) ?_
  refine x_iadd (pc := 616) K dL_law_616 ?_
  have g9 := h.1
  replace h := h.2
  refine x_sld (pc := 617) K hsc g9 dL_law_617 ?_
  clear g9
  refine x_callVi (pc := 618) (n := 1) K (c_X1_neighbours l D cI cJ cZ cA U (xs (i + (1 : Int32)).toNatClampNeg) mcel mtint mcells mnear mthere mways mmore mthrown _ h) rfl rfl gL_law_X1_neighbours rfl (by decide +kernel) ⟨Nat.le_of_ble_eq_true rfl, Nat.le_of_ble_eq_true rfl⟩ rfl (av := [.int (xs (i + (1 : Int32)).toNatClampNeg)]) (b := U 0) (ci := 1) (q0 := 0) rfl rfl rfl (Nat.le_of_ble_eq_true rfl) [18, 19, 20, 21, 22, 23, 24] [0, 1, 2, 3, 4, 5, 6, 7, 8, 9, 10, 11, 12, 13, 14, 15, 16, 17, 25] (wr := (((wX0 cI cJ cZ cA V land there near worn trial fits ways) ++ wJ cI cA (V 7) (fun k => V (k + 8)) joined) ++ [(ao, .inl (cJ, 1, .inr (.inl out_9001)))])) rfl rfl rfl rfl (by decide) dL_law_618 ⟨by show _ ≤ 601024; omega, by show _ ≤ 7293034; omega⟩ (fun r9007 u9 h => ?_)
  obtain ⟨mcells_9003, mnear_9004, mthere_9005, mthrown_9006⟩ := u9
  refine x_wsub (ws' := (wLaw cI cJ cZ cA V U land there near worn trial fits ways joined mcel mtint mcells_9003 mnear_9004 mthere_9005 mways mmore mthrown_9006 ao out_9001)) [0, 1, 2, 3, 4, 5, 6, 7, 8, 9, 10, 11, 12, 13, 14, 15, 16, 17, 19, 20, 21, 22, 23, 24, 25, 18] rfl rfl ?_
  refine x_istore (lv' := [(0, .ref b), (1, .ref (V 0)), (2, .ref (U 0)), (3, .ref ao), (4, .int i), (5, .int k9002), (6, .int r9007)]) (pc := 621) K dL_law_621 (by decide) rfl ?_
  refine x_aload_n (pc := 623) K dL_law_623 2 rfl rfl ?_
  refine x_callVi (pc := 624) (n := 0) K (c_X1_thrown l D cI cJ cZ cA U mcel mtint mcells_9003 mnear_9004 mthere_9005 mways mmore mthrown_9006 _ h) rfl rfl gL_law_X1_thrown rfl (by decide +kernel) ⟨Nat.le_of_ble_eq_true rfl, Nat.le_of_ble_eq_true rfl⟩ rfl (av := []) (b := U 0) (ci := 1) (q0 := 0) rfl rfl rfl (Nat.le_of_ble_eq_true rfl) [18, 19, 20, 21, 22, 23, 24] [0, 1, 2, 3, 4, 5, 6, 7, 8, 9, 10, 11, 12, 13, 14, 15, 16, 17, 25] (wr := (((wX0 cI cJ cZ cA V land there near worn trial fits ways) ++ wJ cI cA (V 7) (fun k => V (k + 8)) joined) ++ [(ao, .inl (cJ, 1, .inr (.inl out_9001)))])) rfl rfl rfl rfl (by decide) dL_law_624 ⟨by show _ ≤ 601024; omega, by show _ ≤ 7293034; omega⟩ (fun r9008 _ h => ?_)
  refine x_wsub (ws' := (wLaw cI cJ cZ cA V U land there near worn trial fits ways joined mcel mtint mcells_9003 mnear_9004 mthere_9005 mways mmore mthrown_9006 ao out_9001)) [0, 1, 2, 3, 4, 5, 6, 7, 8, 9, 10, 11, 12, 13, 14, 15, 16, 17, 19, 20, 21, 22, 23, 24, 25, 18] rfl rfl ?_
  refine x_iload (pc := 627) K dL_law_627 5 rfl ?_
  refine x_icmp_eq (pc := 629) K dL_law_629 (tgt := 634) (by decide) (fun c9 => ?_) (fun c9 => ?_)
  · have h := h.1 c9
    refine x_iload (pc := 634) K dL_law_634 5 rfl ?_
    refine x_if_ne (pc := 636) K dL_law_636 (tgt := 651) (by decide) (fun c9 => ?_) (fun c9 => ?_)
    · have h := h.1 c9
      refine x_goto (pc := 651) K dL_law_651 (tgt := 1310) (by decide) ?_
      refine x_iinc (v := i + (6 : Int32)) (lv' := [(0, .ref b), (1, .ref (V 0)), (2, .ref (U 0)), (3, .ref ao), (4, .int (i + (6 : Int32))), (5, .int k9002), (6, .int r9007)]) (pc := 1310) K dL_law_1310 (k := 4) rfl rfl (by decide) rfl ?_
      refine x_goto (pc := 1313) K dL_law_1313 (tgt := 23) (by decide) ?_
      refine x_keep [true, true, true, true, true, false, false] rfl ?_
      exact ih (i + (6 : Int32)) land there near worn trial fits ways joined mcel mtint mcells_9003 mnear_9004 mthere_9005 mways mmore mthrown_9006 out_9001 _ _ (by omega) (by omega) h
    · have h := h.2 c9
      refine x_aload_n (pc := 639) K dL_law_639 3 rfl rfl ?_
      refine x_iconst (v := 0) (pc := 640) K dL_law_640 (by decide) ?_
      refine x_lald (pc := 641) K 25 1 rfl rfl (by decide) dL_law_641 ?_
      refine x_iload (pc := 642) K dL_law_642 6 rfl ?_
      refine x_i2l (pc := 644) K dL_law_644 ?_
      refine x_lcmp (pc := 645) K dL_law_645 ?_
      refine x_if_eq (pc := 646) K dL_law_646 (tgt := 651) (by decide) (fun c9 => ?_) (fun c9 => ?_)
      · have h := h.1 c9
        refine x_goto (pc := 651) K dL_law_651 (tgt := 1310) (by decide) ?_
        refine x_iinc (v := i + (6 : Int32)) (lv' := [(0, .ref b), (1, .ref (V 0)), (2, .ref (U 0)), (3, .ref ao), (4, .int (i + (6 : Int32))), (5, .int k9002), (6, .int r9007)]) (pc := 1310) K dL_law_1310 (k := 4) rfl rfl (by decide) rfl ?_
        refine x_goto (pc := 1313) K dL_law_1313 (tgt := 23) (by decide) ?_
        refine x_keep [true, true, true, true, true, false, false] rfl ?_
        exact ih (i + (6 : Int32)) land there near worn trial fits ways joined mcel mtint mcells_9003 mnear_9004 mthere_9005 mways mmore mthrown_9006 out_9001 _ _ (by omega) (by omega) h
      · have h := h.2 c9
        refine x_iconst (v := 0) (pc := 649) K dL_law_649 (by decide) ?_
        exact h.elim
  · have h := h.2 c9
    refine x_iconst (v := 0) (pc := 632) K dL_law_632 (by decide) ?_
    exact h.elim
set_option maxHeartbeats 4000000 in
set_option maxRecDepth 100000 in
theorem w_L_case9 {X : xC} {l : Launch} {D : va_G} {cI cJ cZ cA : ClassId} {V U : Nat → Nat} {ao b L : Nat} {xs : Nat → Int32} (hst : l.stackTraces = false) (K : xk X l room_1 D vwCl (xtys cI cJ cZ cA) cL_law RL wsL_law 8) (hE : xEx X RX0 [(61, "the block ends before it begins"), (180, "there is no such row or column"), (183, "there is no such country"), (185, "neither a country nor sea"), (187, "there is no such tint"), (189, "there are not so many tints"), (193, "the country is not there or has no tint")]) (hN : xno X) (hsc : xsc X b L xs) {n : Nat} (rec9 : Int32 → (Nat → Int64) → Int32 → (Nat → Int32) → (Nat → Int32) → (Nat → Int32) → (Nat → Int32) → (Nat → Int64) → (Nat → Nat → Int32) → (Nat → Int32) → (Nat → Int32) → (Nat → Int64) → (Nat → Int32) → Int32 → (Nat → Int64) → (Nat → Int64) → Int32 → (Nat → Int64) → Prop) (ih : ∀ (i : Int32) (land : Nat → Int64) (there : Int32) (near : Nat → Int32) (worn : Nat → Int32) (trial : Nat → Int32) (fits : Nat → Int32) (ways : Nat → Int64) (joined : Nat → Nat → Int32) (mcel : Nat → Int32) (mtint : Nat → Int32) (mcells : Nat → Int64) (mnear : Nat → Int32) (mthere : Int32) (mways : Nat → Int64) (mmore : Nat → Int64) (mthrown : Int32) (out : Nat → Int64) (c9 s9 : Nat), c9 + 4 * n ≤ 601024 → s9 + 24 * n ≤ 7293034 → rec9 i land there near worn trial fits ways joined mcel mtint mcells mnear mthere mways mmore mthrown out → xw X c9 s9 23 [(0, .ref b), (1, .ref (V 0)), (2, .ref (U 0)), (3, .ref ao), (4, .int i)] [] (wLaw cI cJ cZ cA V U land there near worn trial fits ways joined mcel mtint mcells mnear mthere mways mmore mthrown ao out)) (i : Int32) (land : Nat → Int64) (there : Int32) (near : Nat → Int32) (worn : Nat → Int32) (trial : Nat → Int32) (fits : Nat → Int32) (ways : Nat → Int64) (joined : Nat → Nat → Int32) (mcel : Nat → Int32) (mtint : Nat → Int32) (mcells : Nat → Int64) (mnear : Nat → Int32) (mthere : Int32) (mways : Nat → Int64) (mmore : Nat → Int64) (mthrown : Int32) (out : Nat → Int64) (c9 s9 : Nat) (hc : c9 + 4 * (n + 1) ≤ 601024) (hs : s9 + 24 * (n + 1) ≤ 7293034) (h : q_L_case9 L xs rec9 i land there near worn trial fits ways joined mcel mtint mcells mnear mthere mways mmore mthrown out) : xw X c9 s9 654 [(0, .ref b), (1, .ref (V 0)), (2, .ref (U 0)), (3, .ref ao), (4, .int i)] [] (wLaw cI cJ cZ cA V U land there near worn trial fits ways joined mcel mtint mcells mnear mthere mways mmore mthrown ao out) := by
  unfold q_L_case9 at h
  refine x_aload_n (pc := 654) K dL_law_654 1 rfl rfl ?_
  refine x_aload_n (pc := 655) K dL_law_655 0 rfl rfl ?_
  refine x_iload (pc := 656) K dL_law_656 4 rfl ?_
  refine x_iconst (v := 1) (pc := 658) K dL_law_658 (by decide) ?_
  refine x_iadd (pc := 659) K dL_law_659 ?_
  have g9 := h.1
  replace h := h.2
  refine x_sld (pc := 660) K hsc g9 dL_law_660 ?_
  clear g9
  refine x_aload_n (pc := 661) K dL_law_661 0 rfl rfl ?_
  refine x_iload (pc := 662) K dL_law_662 4 rfl ?_
  refine x_iconst (v := 2) (pc := 664) K dL_law_664 (by decide) ?_
  refine x_iadd (pc := 665) K dL_law_665 ?_
  have g9 := h.1
  replace h := h.2
  refine x_sld (pc := 666) K hsc g9 dL_law_666 ?_
  clear g9
  refine x_aload_n (pc := 667) K dL_law_667 3 rfl rfl ?_
  refine x_hcallS (pc := 668) (n := 4) K hE hN (by decide) (c_L_border l D cI cJ cZ cA hst V ao (xs (i + (1 : Int32)).toNatClampNeg) (xs (i + (2 : Int32)).toNatClampNeg) land there near worn trial fits ways joined out _ h) rfl rfl gL_law_L_border (hh := [(0, 10, 13, 13)]) rfl (by decide +kernel) ⟨Nat.le_of_ble_eq_true rfl, Nat.le_of_ble_eq_true rfl⟩ rfl (av := [.ref (V 0), .int (xs (i + (1 : Int32)).toNatClampNeg), .int (xs (i + (2 : Int32)).toNatClampNeg), .ref ao]) rfl (Nat.le_of_ble_eq_true rfl) [0, 1, 2, 3, 4, 5, 6, 7, 8, 9, 10, 11, 12, 13, 14, 15, 16, 17, 25] [18, 19, 20, 21, 22, 23, 24] (wr := (wX1 cI cJ cZ cA U mcel mtint mcells mnear mthere mways mmore mthrown)) rfl rfl rfl rfl (by decide) dL_law_668 ⟨by show _ ≤ 601024; omega, by show _ ≤ 7293034; omega⟩ (fun k10002 out_10001 h => ?_)
  refine x_wsub (ws' := (wLaw cI cJ cZ cA V U land there near worn trial fits ways joined mcel mtint mcells mnear mthere mways mmore mthrown ao out_10001)) [7, 8, 9, 10, 11, 12, 13, 14, 15, 16, 17, 18, 19, 20, 21, 22, 23, 24, 0, 1, 2, 3, 4, 5, 6, 25] rfl rfl ?_
  refine x_istore (lv' := [(0, .ref b), (1, .ref (V 0)), (2, .ref (U 0)), (3, .ref ao), (4, .int i), (5, .int k10002)]) (pc := 671) K dL_law_671 (by decide) rfl ?_
  refine x_aload_n (pc := 673) K dL_law_673 2 rfl rfl ?_
  refine x_aload_n (pc := 674) K dL_law_674 0 rfl rfl ?_
  refine x_iload (pc := 675) K dL_law_675 4 rfl ?_
  refine x_iconst (v := 1) (pc := 677) K dL_law_677 (by decide) ?_
  refine x_iadd (pc := 678) K dL_law_678 ?_
  have g9 := h.1
  replace h := h.2
  refine x_sld (pc := 679) K hsc g9 dL_law_679 ?_
  clear g9
  refine x_aload_n (pc := 680) K dL_law_680 0 rfl rfl ?_
  refine x_iload (pc := 681) K dL_law_681 4 rfl ?_
  refine x_iconst (v := 2) (pc := 683) K dL_law_683 (by decide) ?_
  refine x_iadd (pc := 684) K dL_law_684 ?_
  have g9 := h.1
  replace h := h.2
  refine x_sld (pc := 685) K hsc g9 dL_law_685 ?_
  clear g9
  refine x_callVi (pc := 686) (n := 2) K (c_X1_border l D cI cJ cZ cA U (xs (i + (1 : Int32)).toNatClampNeg) (xs (i + (2 : Int32)).toNatClampNeg) mcel mtint mcells mnear mthere mways mmore mthrown _ h) rfl rfl gL_law_X1_border rfl (by decide +kernel) ⟨Nat.le_of_ble_eq_true rfl, Nat.le_of_ble_eq_true rfl⟩ rfl (av := [.int (xs (i + (1 : Int32)).toNatClampNeg), .int (xs (i + (2 : Int32)).toNatClampNeg)]) (b := U 0) (ci := 1) (q0 := 0) rfl rfl rfl (Nat.le_of_ble_eq_true rfl) [18, 19, 20, 21, 22, 23, 24] [0, 1, 2, 3, 4, 5, 6, 7, 8, 9, 10, 11, 12, 13, 14, 15, 16, 17, 25] (wr := (((wX0 cI cJ cZ cA V land there near worn trial fits ways) ++ wJ cI cA (V 7) (fun k => V (k + 8)) joined) ++ [(ao, .inl (cJ, 1, .inr (.inl out_10001)))])) rfl rfl rfl rfl (by decide) dL_law_686 ⟨by show _ ≤ 601024; omega, by show _ ≤ 7293034; omega⟩ (fun r10007 u9 h => ?_)
  obtain ⟨mcells_10003, mnear_10004, mthere_10005, mthrown_10006⟩ := u9
  refine x_wsub (ws' := (wLaw cI cJ cZ cA V U land there near worn trial fits ways joined mcel mtint mcells_10003 mnear_10004 mthere_10005 mways mmore mthrown_10006 ao out_10001)) [0, 1, 2, 3, 4, 5, 6, 7, 8, 9, 10, 11, 12, 13, 14, 15, 16, 17, 19, 20, 21, 22, 23, 24, 25, 18] rfl rfl ?_
  refine x_istore (lv' := [(0, .ref b), (1, .ref (V 0)), (2, .ref (U 0)), (3, .ref ao), (4, .int i), (5, .int k10002), (6, .int r10007)]) (pc := 689) K dL_law_689 (by decide) rfl ?_
  refine x_aload_n (pc := 691) K dL_law_691 2 rfl rfl ?_
  refine x_callVi (pc := 692) (n := 0) K (c_X1_thrown l D cI cJ cZ cA U mcel mtint mcells_10003 mnear_10004 mthere_10005 mways mmore mthrown_10006 _ h) rfl rfl gL_law_X1_thrown rfl (by decide +kernel) ⟨Nat.le_of_ble_eq_true rfl, Nat.le_of_ble_eq_true rfl⟩ rfl (av := []) (b := U 0) (ci := 1) (q0 := 0) rfl rfl rfl (Nat.le_of_ble_eq_true rfl) [18, 19, 20, 21, 22, 23, 24] [0, 1, 2, 3, 4, 5, 6, 7, 8, 9, 10, 11, 12, 13, 14, 15, 16, 17, 25] (wr := (((wX0 cI cJ cZ cA V land there near worn trial fits ways) ++ wJ cI cA (V 7) (fun k => V (k + 8)) joined) ++ [(ao, .inl (cJ, 1, .inr (.inl out_10001)))])) rfl rfl rfl rfl (by decide) dL_law_692 ⟨by show _ ≤ 601024; omega, by show _ ≤ 7293034; omega⟩ (fun r10008 _ h => ?_)
  refine x_wsub (ws' := (wLaw cI cJ cZ cA V U land there near worn trial fits ways joined mcel mtint mcells_10003 mnear_10004 mthere_10005 mways mmore mthrown_10006 ao out_10001)) [0, 1, 2, 3, 4, 5, 6, 7, 8, 9, 10, 11, 12, 13, 14, 15, 16, 17, 19, 20, 21, 22, 23, 24, 25, 18] rfl rfl ?_
  refine x_iload (pc := 695) K dL_law_695 5 rfl ?_
  refine x_icmp_eq (pc := 697) K dL_law_697 (tgt := 702) (by decide) (fun c9 => ?_) (fun c9 => ?_)
  · have h := h.1 c9
    refine x_iload (pc := 702) K dL_law_702 5 rfl ?_
    refine x_if_ne (pc := 704) K dL_law_704 (tgt := 719) (by decide) (fun c9 => ?_) (fun c9 => ?_)
    · have h := h.1 c9
      refine x_goto (pc := 719) K dL_law_719 (tgt := 1310) (by decide) ?_
      refine x_iinc (v := i + (6 : Int32)) (lv' := [(0, .ref b), (1, .ref (V 0)), (2, .ref (U 0)), (3, .ref ao), (4, .int (i + (6 : Int32))), (5, .int k10002), (6, .int r10007)]) (pc := 1310) K dL_law_1310 (k := 4) rfl rfl (by decide) rfl ?_
      refine x_goto (pc := 1313) K dL_law_1313 (tgt := 23) (by decide) ?_
      refine x_keep [true, true, true, true, true, false, false] rfl ?_
      exact ih (i + (6 : Int32)) land there near worn trial fits ways joined mcel mtint mcells_10003 mnear_10004 mthere_10005 mways mmore mthrown_10006 out_10001 _ _ (by omega) (by omega) h
    · have h := h.2 c9
      refine x_aload_n (pc := 707) K dL_law_707 3 rfl rfl ?_
      refine x_iconst (v := 0) (pc := 708) K dL_law_708 (by decide) ?_
      refine x_lald (pc := 709) K 25 1 rfl rfl (by decide) dL_law_709 ?_
      refine x_iload (pc := 710) K dL_law_710 6 rfl ?_
      refine x_i2l (pc := 712) K dL_law_712 ?_
      refine x_lcmp (pc := 713) K dL_law_713 ?_
      refine x_if_eq (pc := 714) K dL_law_714 (tgt := 719) (by decide) (fun c9 => ?_) (fun c9 => ?_)
      · have h := h.1 c9
        refine x_goto (pc := 719) K dL_law_719 (tgt := 1310) (by decide) ?_
        refine x_iinc (v := i + (6 : Int32)) (lv' := [(0, .ref b), (1, .ref (V 0)), (2, .ref (U 0)), (3, .ref ao), (4, .int (i + (6 : Int32))), (5, .int k10002), (6, .int r10007)]) (pc := 1310) K dL_law_1310 (k := 4) rfl rfl (by decide) rfl ?_
        refine x_goto (pc := 1313) K dL_law_1313 (tgt := 23) (by decide) ?_
        refine x_keep [true, true, true, true, true, false, false] rfl ?_
        exact ih (i + (6 : Int32)) land there near worn trial fits ways joined mcel mtint mcells_10003 mnear_10004 mthere_10005 mways mmore mthrown_10006 out_10001 _ _ (by omega) (by omega) h
      · have h := h.2 c9
        refine x_iconst (v := 0) (pc := 717) K dL_law_717 (by decide) ?_
        exact h.elim
  · have h := h.2 c9
    refine x_iconst (v := 0) (pc := 700) K dL_law_700 (by decide) ?_
    exact h.elim
set_option maxHeartbeats 4000000 in
set_option maxRecDepth 100000 in
theorem w_L_case10 {X : xC} {l : Launch} {D : va_G} {cI cJ cZ cA : ClassId} {V U : Nat → Nat} {ao b L : Nat} {xs : Nat → Int32} (hst : l.stackTraces = false) (K : xk X l room_1 D vwCl (xtys cI cJ cZ cA) cL_law RL wsL_law 8) (hE : xEx X RX0 [(61, "the block ends before it begins"), (180, "there is no such row or column"), (183, "there is no such country"), (185, "neither a country nor sea"), (187, "there is no such tint"), (189, "there are not so many tints"), (193, "the country is not there or has no tint")]) (hN : xno X) (hsc : xsc X b L xs) {n : Nat} (rec9 : Int32 → (Nat → Int64) → Int32 → (Nat → Int32) → (Nat → Int32) → (Nat → Int32) → (Nat → Int32) → (Nat → Int64) → (Nat → Nat → Int32) → (Nat → Int32) → (Nat → Int32) → (Nat → Int64) → (Nat → Int32) → Int32 → (Nat → Int64) → (Nat → Int64) → Int32 → (Nat → Int64) → Prop) (ih : ∀ (i : Int32) (land : Nat → Int64) (there : Int32) (near : Nat → Int32) (worn : Nat → Int32) (trial : Nat → Int32) (fits : Nat → Int32) (ways : Nat → Int64) (joined : Nat → Nat → Int32) (mcel : Nat → Int32) (mtint : Nat → Int32) (mcells : Nat → Int64) (mnear : Nat → Int32) (mthere : Int32) (mways : Nat → Int64) (mmore : Nat → Int64) (mthrown : Int32) (out : Nat → Int64) (c9 s9 : Nat), c9 + 4 * n ≤ 601024 → s9 + 24 * n ≤ 7293034 → rec9 i land there near worn trial fits ways joined mcel mtint mcells mnear mthere mways mmore mthrown out → xw X c9 s9 23 [(0, .ref b), (1, .ref (V 0)), (2, .ref (U 0)), (3, .ref ao), (4, .int i)] [] (wLaw cI cJ cZ cA V U land there near worn trial fits ways joined mcel mtint mcells mnear mthere mways mmore mthrown ao out)) (i : Int32) (land : Nat → Int64) (there : Int32) (near : Nat → Int32) (worn : Nat → Int32) (trial : Nat → Int32) (fits : Nat → Int32) (ways : Nat → Int64) (joined : Nat → Nat → Int32) (mcel : Nat → Int32) (mtint : Nat → Int32) (mcells : Nat → Int64) (mnear : Nat → Int32) (mthere : Int32) (mways : Nat → Int64) (mmore : Nat → Int64) (mthrown : Int32) (out : Nat → Int64) (c9 s9 : Nat) (hc : c9 + 4 * (n + 1) ≤ 601024) (hs : s9 + 24 * (n + 1) ≤ 7293034) (h : q_L_case10 L xs rec9 i land there near worn trial fits ways joined mcel mtint mcells mnear mthere mways mmore mthrown out) : xw X c9 s9 722 [(0, .ref b), (1, .ref (V 0)), (2, .ref (U 0)), (3, .ref ao), (4, .int i)] [] (wLaw cI cJ cZ cA V U land there near worn trial fits ways joined mcel mtint mcells mnear mthere mways mmore mthrown ao out) := by
  unfold q_L_case10 at h
  refine x_aload_n (pc := 722) K dL_law_722 1 rfl rfl ?_
  refine x_aload_n (pc := 723) K dL_law_723 0 rfl rfl ?_
  refine x_iload (pc := 724) K dL_law_724 4 rfl ?_
  refine x_iconst (v := 1) (pc := 726) K dL_law_726 (by decide) ?_
  refine x_iadd (pc := 727) K dL_law_727 ?_
  have g9 := h.1
  replace h := h.2
  refine x_sld (pc := 728) K hsc g9 dL_law_728 ?_
  clear g9
  refine x_aload_n (pc := 729) K dL_law_729 3 rfl rfl ?_
  refine x_hcallS (pc := 730) (n := 3) K hE hN (by decide) (c_L_enclosed l D cI cJ cZ cA hst V ao (xs (i + (1 : Int32)).toNatClampNeg) land there near worn trial fits ways joined out _ h) rfl rfl gL_law_L_enclosed (hh := [(0, 9, 12, 13)]) rfl (by decide +kernel) ⟨Nat.le_of_ble_eq_true rfl, Nat.le_of_ble_eq_true rfl⟩ rfl (av := [.ref (V 0), .int (xs (i + (1 : Int32)).toNatClampNeg), .ref ao]) rfl (Nat.le_of_ble_eq_true rfl) [0, 1, 2, 3, 4, 5, 6, 7, 8, 9, 10, 11, 12, 13, 14, 15, 16, 17, 25] [18, 19, 20, 21, 22, 23, 24] (wr := (wX1 cI cJ cZ cA U mcel mtint mcells mnear mthere mways mmore mthrown)) rfl rfl rfl rfl (by decide) dL_law_730 ⟨by show _ ≤ 601024; omega, by show _ ≤ 7293034; omega⟩ (fun k11002 out_11001 h => ?_)
  refine x_wsub (ws' := (wLaw cI cJ cZ cA V U land there near worn trial fits ways joined mcel mtint mcells mnear mthere mways mmore mthrown ao out_11001)) [7, 8, 9, 10, 11, 12, 13, 14, 15, 16, 17, 18, 19, 20, 21, 22, 23, 24, 0, 1, 2, 3, 4, 5, 6, 25] rfl rfl ?_
  refine x_istore (lv' := [(0, .ref b), (1, .ref (V 0)), (2, .ref (U 0)), (3, .ref ao), (4, .int i), (5, .int k11002)]) (pc := 733) K dL_law_733 (by decide) rfl ?_
  refine x_aload_n (pc := 735) K dL_law_735 2 rfl rfl ?_
  refine x_aload_n (pc := 736) K dL_law_736 0 rfl rfl ?_
  refine x_iload (pc := 737) K dL_law_737 4 rfl ?_
  refine x_iconst (v := 1) (pc := 739) K dL_law_739 (by decide) ?_
  refine x_iadd (pc := 740) K dL_law_740 ?_
  have g9 := h.1
  replace h := h.2
  refine x_sld (pc := 741) K hsc g9 dL_law_741 ?_
  clear g9
  refine x_callVi (pc := 742) (n := 1) K (c_X1_enclosed l D cI cJ cZ cA U (xs (i + (1 : Int32)).toNatClampNeg) mcel mtint mcells mnear mthere mways mmore mthrown _ h) rfl rfl gL_law_X1_enclosed rfl (by decide +kernel) ⟨Nat.le_of_ble_eq_true rfl, Nat.le_of_ble_eq_true rfl⟩ rfl (av := [.int (xs (i + (1 : Int32)).toNatClampNeg)]) (b := U 0) (ci := 1) (q0 := 0) rfl rfl rfl (Nat.le_of_ble_eq_true rfl) [18, 19, 20, 21, 22, 23, 24] [0, 1, 2, 3, 4, 5, 6, 7, 8, 9, 10, 11, 12, 13, 14, 15, 16, 17, 25] (wr := (((wX0 cI cJ cZ cA V land there near worn trial fits ways) ++ wJ cI cA (V 7) (fun k => V (k + 8)) joined) ++ [(ao, .inl (cJ, 1, .inr (.inl out_11001)))])) rfl rfl rfl rfl (by decide) dL_law_742 ⟨by show _ ≤ 601024; omega, by show _ ≤ 7293034; omega⟩ (fun r11007 u9 h => ?_)
  obtain ⟨mcells_11003, mnear_11004, mthere_11005, mthrown_11006⟩ := u9
  refine x_wsub (ws' := (wLaw cI cJ cZ cA V U land there near worn trial fits ways joined mcel mtint mcells_11003 mnear_11004 mthere_11005 mways mmore mthrown_11006 ao out_11001)) [0, 1, 2, 3, 4, 5, 6, 7, 8, 9, 10, 11, 12, 13, 14, 15, 16, 17, 19, 20, 21, 22, 23, 24, 25, 18] rfl rfl ?_
  refine x_istore (lv' := [(0, .ref b), (1, .ref (V 0)), (2, .ref (U 0)), (3, .ref ao), (4, .int i), (5, .int k11002), (6, .int r11007)]) (pc := 745) K dL_law_745 (by decide) rfl ?_
  refine x_aload_n (pc := 747) K dL_law_747 2 rfl rfl ?_
  refine x_callVi (pc := 748) (n := 0) K (c_X1_thrown l D cI cJ cZ cA U mcel mtint mcells_11003 mnear_11004 mthere_11005 mways mmore mthrown_11006 _ h) rfl rfl gL_law_X1_thrown rfl (by decide +kernel) ⟨Nat.le_of_ble_eq_true rfl, Nat.le_of_ble_eq_true rfl⟩ rfl (av := []) (b := U 0) (ci := 1) (q0 := 0) rfl rfl rfl (Nat.le_of_ble_eq_true rfl) [18, 19, 20, 21, 22, 23, 24] [0, 1, 2, 3, 4, 5, 6, 7, 8, 9, 10, 11, 12, 13, 14, 15, 16, 17, 25] (wr := (((wX0 cI cJ cZ cA V land there near worn trial fits ways) ++ wJ cI cA (V 7) (fun k => V (k + 8)) joined) ++ [(ao, .inl (cJ, 1, .inr (.inl out_11001)))])) rfl rfl rfl rfl (by decide) dL_law_748 ⟨by show _ ≤ 601024; omega, by show _ ≤ 7293034; omega⟩ (fun r11008 _ h => ?_)
  refine x_wsub (ws' := (wLaw cI cJ cZ cA V U land there near worn trial fits ways joined mcel mtint mcells_11003 mnear_11004 mthere_11005 mways mmore mthrown_11006 ao out_11001)) [0, 1, 2, 3, 4, 5, 6, 7, 8, 9, 10, 11, 12, 13, 14, 15, 16, 17, 19, 20, 21, 22, 23, 24, 25, 18] rfl rfl ?_
  refine x_iload (pc := 751) K dL_law_751 5 rfl ?_
  refine x_icmp_eq (pc := 753) K dL_law_753 (tgt := 758) (by decide) (fun c9 => ?_) (fun c9 => ?_)
  · have h := h.1 c9
    refine x_iload (pc := 758) K dL_law_758 5 rfl ?_
    refine x_if_ne (pc := 760) K dL_law_760 (tgt := 775) (by decide) (fun c9 => ?_) (fun c9 => ?_)
    · have h := h.1 c9
      refine x_goto (pc := 775) K dL_law_775 (tgt := 1310) (by decide) ?_
      refine x_iinc (v := i + (6 : Int32)) (lv' := [(0, .ref b), (1, .ref (V 0)), (2, .ref (U 0)), (3, .ref ao), (4, .int (i + (6 : Int32))), (5, .int k11002), (6, .int r11007)]) (pc := 1310) K dL_law_1310 (k := 4) rfl rfl (by decide) rfl ?_
      refine x_goto (pc := 1313) K dL_law_1313 (tgt := 23) (by decide) ?_
      refine x_keep [true, true, true, true, true, false, false] rfl ?_
      exact ih (i + (6 : Int32)) land there near worn trial fits ways joined mcel mtint mcells_11003 mnear_11004 mthere_11005 mways mmore mthrown_11006 out_11001 _ _ (by omega) (by omega) h
    · have h := h.2 c9
      refine x_aload_n (pc := 763) K dL_law_763 3 rfl rfl ?_
      refine x_iconst (v := 0) (pc := 764) K dL_law_764 (by decide) ?_
      refine x_lald (pc := 765) K 25 1 rfl rfl (by decide) dL_law_765 ?_
      refine x_iload (pc := 766) K dL_law_766 6 rfl ?_
      refine x_i2l (pc := 768) K dL_law_768 ?_
      refine x_lcmp (pc := 769) K dL_law_769 ?_
      refine x_if_eq (pc := 770) K dL_law_770 (tgt := 775) (by decide) (fun c9 => ?_) (fun c9 => ?_)
      · have h := h.1 c9
        refine x_goto (pc := 775) K dL_law_775 (tgt := 1310) (by decide) ?_
        refine x_iinc (v := i + (6 : Int32)) (lv' := [(0, .ref b), (1, .ref (V 0)), (2, .ref (U 0)), (3, .ref ao), (4, .int (i + (6 : Int32))), (5, .int k11002), (6, .int r11007)]) (pc := 1310) K dL_law_1310 (k := 4) rfl rfl (by decide) rfl ?_
        refine x_goto (pc := 1313) K dL_law_1313 (tgt := 23) (by decide) ?_
        refine x_keep [true, true, true, true, true, false, false] rfl ?_
        exact ih (i + (6 : Int32)) land there near worn trial fits ways joined mcel mtint mcells_11003 mnear_11004 mthere_11005 mways mmore mthrown_11006 out_11001 _ _ (by omega) (by omega) h
      · have h := h.2 c9
        refine x_iconst (v := 0) (pc := 773) K dL_law_773 (by decide) ?_
        exact h.elim
  · have h := h.2 c9
    refine x_iconst (v := 0) (pc := 756) K dL_law_756 (by decide) ?_
    exact h.elim
set_option maxHeartbeats 4000000 in
set_option maxRecDepth 100000 in
theorem w_L_case11 {X : xC} {l : Launch} {D : va_G} {cI cJ cZ cA : ClassId} {V U : Nat → Nat} {ao b L : Nat} {xs : Nat → Int32} (hst : l.stackTraces = false) (K : xk X l room_1 D vwCl (xtys cI cJ cZ cA) cL_law RL wsL_law 8) (hE : xEx X RX0 [(61, "the block ends before it begins"), (180, "there is no such row or column"), (183, "there is no such country"), (185, "neither a country nor sea"), (187, "there is no such tint"), (189, "there are not so many tints"), (193, "the country is not there or has no tint")]) (hN : xno X) (hsc : xsc X b L xs) {n : Nat} (rec9 : Int32 → (Nat → Int64) → Int32 → (Nat → Int32) → (Nat → Int32) → (Nat → Int32) → (Nat → Int32) → (Nat → Int64) → (Nat → Nat → Int32) → (Nat → Int32) → (Nat → Int32) → (Nat → Int64) → (Nat → Int32) → Int32 → (Nat → Int64) → (Nat → Int64) → Int32 → (Nat → Int64) → Prop) (ih : ∀ (i : Int32) (land : Nat → Int64) (there : Int32) (near : Nat → Int32) (worn : Nat → Int32) (trial : Nat → Int32) (fits : Nat → Int32) (ways : Nat → Int64) (joined : Nat → Nat → Int32) (mcel : Nat → Int32) (mtint : Nat → Int32) (mcells : Nat → Int64) (mnear : Nat → Int32) (mthere : Int32) (mways : Nat → Int64) (mmore : Nat → Int64) (mthrown : Int32) (out : Nat → Int64) (c9 s9 : Nat), c9 + 4 * n ≤ 601024 → s9 + 24 * n ≤ 7293034 → rec9 i land there near worn trial fits ways joined mcel mtint mcells mnear mthere mways mmore mthrown out → xw X c9 s9 23 [(0, .ref b), (1, .ref (V 0)), (2, .ref (U 0)), (3, .ref ao), (4, .int i)] [] (wLaw cI cJ cZ cA V U land there near worn trial fits ways joined mcel mtint mcells mnear mthere mways mmore mthrown ao out)) (i : Int32) (land : Nat → Int64) (there : Int32) (near : Nat → Int32) (worn : Nat → Int32) (trial : Nat → Int32) (fits : Nat → Int32) (ways : Nat → Int64) (joined : Nat → Nat → Int32) (mcel : Nat → Int32) (mtint : Nat → Int32) (mcells : Nat → Int64) (mnear : Nat → Int32) (mthere : Int32) (mways : Nat → Int64) (mmore : Nat → Int64) (mthrown : Int32) (out : Nat → Int64) (c9 s9 : Nat) (hc : c9 + 4 * (n + 1) ≤ 601024) (hs : s9 + 24 * (n + 1) ≤ 7293034) (h : q_L_case11 L xs rec9 i land there near worn trial fits ways joined mcel mtint mcells mnear mthere mways mmore mthrown out) : xw X c9 s9 778 [(0, .ref b), (1, .ref (V 0)), (2, .ref (U 0)), (3, .ref ao), (4, .int i)] [] (wLaw cI cJ cZ cA V U land there near worn trial fits ways joined mcel mtint mcells mnear mthere mways mmore mthrown ao out) := by
  unfold q_L_case11 at h
  refine x_aload_n (pc := 778) K dL_law_778 1 rfl rfl ?_
  refine x_callVi (pc := 779) (n := 0) K (c_X0_allNeighbours l D cI cJ cZ cA V land there near worn trial fits ways _ h) rfl rfl gL_law_X0_allNeighbours rfl (by decide +kernel) ⟨Nat.le_of_ble_eq_true rfl, Nat.le_of_ble_eq_true rfl⟩ rfl (av := []) (b := V 0) (ci := 0) (q0 := 0) rfl rfl rfl (Nat.le_of_ble_eq_true rfl) [0, 1, 2, 3, 4, 5, 6] [7, 8, 9, 10, 11, 12, 13, 14, 15, 16, 17, 18, 19, 20, 21, 22, 23, 24, 25] (wr := ((wJ cI cA (V 7) (fun k => V (k + 8)) joined ++ wX1 cI cJ cZ cA U mcel mtint mcells mnear mthere mways mmore mthrown) ++ [(ao, .inl (cJ, 1, .inr (.inl out)))])) rfl rfl rfl rfl (by decide) dL_law_779 ⟨by show _ ≤ 601024; omega, by show _ ≤ 7293034; omega⟩ (fun r12002 fits_12001 h => ?_)
  refine x_wsub (ws' := (wLaw cI cJ cZ cA V U land there near worn trial fits_12001 ways joined mcel mtint mcells mnear mthere mways mmore mthrown ao out)) [19, 20, 21, 22, 23, 24, 25, 0, 1, 2, 3, 4, 5, 6, 7, 8, 9, 10, 11, 12, 13, 14, 15, 16, 17, 18] rfl rfl ?_
  refine x_aload_n (pc := 782) K dL_law_782 2 rfl rfl ?_
  refine x_callVi (pc := 783) (n := 0) K (c_X1_allNeighbours l D cI cJ cZ cA U mcel mtint mcells mnear mthere mways mmore mthrown _ h) rfl rfl gL_law_X1_allNeighbours rfl (by decide +kernel) ⟨Nat.le_of_ble_eq_true rfl, Nat.le_of_ble_eq_true rfl⟩ rfl (av := []) (b := U 0) (ci := 1) (q0 := 0) rfl rfl rfl (Nat.le_of_ble_eq_true rfl) [18, 19, 20, 21, 22, 23, 24] [0, 1, 2, 3, 4, 5, 6, 7, 8, 9, 10, 11, 12, 13, 14, 15, 16, 17, 25] (wr := (((wX0 cI cJ cZ cA V land there near worn trial fits_12001 ways) ++ wJ cI cA (V 7) (fun k => V (k + 8)) joined) ++ [(ao, .inl (cJ, 1, .inr (.inl out)))])) rfl rfl rfl rfl (by decide) dL_law_783 ⟨by show _ ≤ 601024; omega, by show _ ≤ 7293034; omega⟩ (fun r12007 u9 h => ?_)
  obtain ⟨mcells_12003, mnear_12004, mthere_12005, mthrown_12006⟩ := u9
  refine x_wsub (ws' := (wLaw cI cJ cZ cA V U land there near worn trial fits_12001 ways joined mcel mtint mcells_12003 mnear_12004 mthere_12005 mways mmore mthrown_12006 ao out)) [0, 1, 2, 3, 4, 5, 6, 7, 8, 9, 10, 11, 12, 13, 14, 15, 16, 17, 19, 20, 21, 22, 23, 24, 25, 18] rfl rfl ?_
  refine x_icmp_eq (pc := 786) K dL_law_786 (tgt := 1310) (by decide) (fun c9 => ?_) (fun c9 => ?_)
  · have h := h.1 c9
    refine x_iinc (v := i + (6 : Int32)) (lv' := [(0, .ref b), (1, .ref (V 0)), (2, .ref (U 0)), (3, .ref ao), (4, .int (i + (6 : Int32)))]) (pc := 1310) K dL_law_1310 (k := 4) rfl rfl (by decide) rfl ?_
    refine x_goto (pc := 1313) K dL_law_1313 (tgt := 23) (by decide) ?_
    exact ih (i + (6 : Int32)) land there near worn trial fits_12001 ways joined mcel mtint mcells_12003 mnear_12004 mthere_12005 mways mmore mthrown_12006 out _ _ (by omega) (by omega) h
  · have h := h.2 c9
    refine x_iconst (v := 0) (pc := 789) K dL_law_789 (by decide) ?_
    exact h.elim
set_option maxHeartbeats 4000000 in
set_option maxRecDepth 100000 in
theorem w_L_case12 {X : xC} {l : Launch} {D : va_G} {cI cJ cZ cA : ClassId} {V U : Nat → Nat} {ao b L : Nat} {xs : Nat → Int32} (hst : l.stackTraces = false) (K : xk X l room_1 D vwCl (xtys cI cJ cZ cA) cL_law RL wsL_law 8) (hE : xEx X RX0 [(61, "the block ends before it begins"), (180, "there is no such row or column"), (183, "there is no such country"), (185, "neither a country nor sea"), (187, "there is no such tint"), (189, "there are not so many tints"), (193, "the country is not there or has no tint")]) (hN : xno X) (hsc : xsc X b L xs) {n : Nat} (rec9 : Int32 → (Nat → Int64) → Int32 → (Nat → Int32) → (Nat → Int32) → (Nat → Int32) → (Nat → Int32) → (Nat → Int64) → (Nat → Nat → Int32) → (Nat → Int32) → (Nat → Int32) → (Nat → Int64) → (Nat → Int32) → Int32 → (Nat → Int64) → (Nat → Int64) → Int32 → (Nat → Int64) → Prop) (ih : ∀ (i : Int32) (land : Nat → Int64) (there : Int32) (near : Nat → Int32) (worn : Nat → Int32) (trial : Nat → Int32) (fits : Nat → Int32) (ways : Nat → Int64) (joined : Nat → Nat → Int32) (mcel : Nat → Int32) (mtint : Nat → Int32) (mcells : Nat → Int64) (mnear : Nat → Int32) (mthere : Int32) (mways : Nat → Int64) (mmore : Nat → Int64) (mthrown : Int32) (out : Nat → Int64) (c9 s9 : Nat), c9 + 4 * n ≤ 601024 → s9 + 24 * n ≤ 7293034 → rec9 i land there near worn trial fits ways joined mcel mtint mcells mnear mthere mways mmore mthrown out → xw X c9 s9 23 [(0, .ref b), (1, .ref (V 0)), (2, .ref (U 0)), (3, .ref ao), (4, .int i)] [] (wLaw cI cJ cZ cA V U land there near worn trial fits ways joined mcel mtint mcells mnear mthere mways mmore mthrown ao out)) (i : Int32) (land : Nat → Int64) (there : Int32) (near : Nat → Int32) (worn : Nat → Int32) (trial : Nat → Int32) (fits : Nat → Int32) (ways : Nat → Int64) (joined : Nat → Nat → Int32) (mcel : Nat → Int32) (mtint : Nat → Int32) (mcells : Nat → Int64) (mnear : Nat → Int32) (mthere : Int32) (mways : Nat → Int64) (mmore : Nat → Int64) (mthrown : Int32) (out : Nat → Int64) (c9 s9 : Nat) (hc : c9 + 4 * (n + 1) ≤ 601024) (hs : s9 + 24 * (n + 1) ≤ 7293034) (h : q_L_case12 L xs rec9 i land there near worn trial fits ways joined mcel mtint mcells mnear mthere mways mmore mthrown out) : xw X c9 s9 791 [(0, .ref b), (1, .ref (V 0)), (2, .ref (U 0)), (3, .ref ao), (4, .int i)] [] (wLaw cI cJ cZ cA V U land there near worn trial fits ways joined mcel mtint mcells mnear mthere mways mmore mthrown ao out) := by
  unfold q_L_case12 at h
  refine x_aload_n (pc := 791) K dL_law_791 1 rfl rfl ?_
  refine x_aload_n (pc := 792) K dL_law_792 0 rfl rfl ?_
  refine x_iload (pc := 793) K dL_law_793 4 rfl ?_
  refine x_iconst (v := 1) (pc := 795) K dL_law_795 (by decide) ?_
  refine x_iadd (pc := 796) K dL_law_796 ?_
  have g9 := h.1
  replace h := h.2
  refine x_sld (pc := 797) K hsc g9 dL_law_797 ?_
  clear g9
  refine x_aload_n (pc := 798) K dL_law_798 0 rfl rfl ?_
  refine x_iload (pc := 799) K dL_law_799 4 rfl ?_
  refine x_iconst (v := 2) (pc := 801) K dL_law_801 (by decide) ?_
  refine x_iadd (pc := 802) K dL_law_802 ?_
  have g9 := h.1
  replace h := h.2
  refine x_sld (pc := 803) K hsc g9 dL_law_803 ?_
  clear g9
  refine x_aload_n (pc := 804) K dL_law_804 3 rfl rfl ?_
  refine x_hcallS (pc := 805) (n := 4) K hE hN (by decide) (c_L_tint l D cI cJ cZ cA hst V ao (xs (i + (1 : Int32)).toNatClampNeg) (xs (i + (2 : Int32)).toNatClampNeg) land there near worn trial fits ways joined out _ h) rfl rfl gL_law_L_tint (hh := [(0, 10, 13, 13), (0, 10, 17, 15)]) rfl (by decide +kernel) ⟨Nat.le_of_ble_eq_true rfl, Nat.le_of_ble_eq_true rfl⟩ rfl (av := [.ref (V 0), .int (xs (i + (1 : Int32)).toNatClampNeg), .int (xs (i + (2 : Int32)).toNatClampNeg), .ref ao]) rfl (Nat.le_of_ble_eq_true rfl) [0, 1, 2, 3, 4, 5, 6, 7, 8, 9, 10, 11, 12, 13, 14, 15, 16, 17, 25] [18, 19, 20, 21, 22, 23, 24] (wr := (wX1 cI cJ cZ cA U mcel mtint mcells mnear mthere mways mmore mthrown)) rfl rfl rfl rfl (by decide) dL_law_805 ⟨by show _ ≤ 601024; omega, by show _ ≤ 7293034; omega⟩ (fun k13003 u9 h => ?_)
  obtain ⟨worn_13001, out_13002⟩ := u9
  refine x_wsub (ws' := (wLaw cI cJ cZ cA V U land there near worn_13001 trial fits ways joined mcel mtint mcells mnear mthere mways mmore mthrown ao out_13002)) [7, 8, 9, 10, 11, 12, 13, 14, 15, 16, 17, 18, 19, 20, 21, 22, 23, 24, 0, 1, 2, 3, 4, 5, 6, 25] rfl rfl ?_
  refine x_istore (lv' := [(0, .ref b), (1, .ref (V 0)), (2, .ref (U 0)), (3, .ref ao), (4, .int i), (5, .int k13003)]) (pc := 808) K dL_law_808 (by decide) rfl ?_
  refine x_aload_n (pc := 810) K dL_law_810 2 rfl rfl ?_
  refine x_aload_n (pc := 811) K dL_law_811 0 rfl rfl ?_
  refine x_iload (pc := 812) K dL_law_812 4 rfl ?_
  refine x_iconst (v := 1) (pc := 814) K dL_law_814 (by decide) ?_
  refine x_iadd (pc := 815) K dL_law_815 ?_
  have g9 := h.1
  replace h := h.2
  refine x_sld (pc := 816) K hsc g9 dL_law_816 ?_
  clear g9
  refine x_aload_n (pc := 817) K dL_law_817 0 rfl rfl ?_
  refine x_iload (pc := 818) K dL_law_818 4 rfl ?_
  refine x_iconst (v := 2) (pc := 820) K dL_law_820 (by decide) ?_
  refine x_iadd (pc := 821) K dL_law_821 ?_
  have g9 := h.1
  replace h := h.2
  refine x_sld (pc := 822) K hsc g9 dL_law_822 ?_
  clear g9
  refine x_callVi (pc := 823) (n := 2) K (c_X1_tint l D cI cJ cZ cA U (xs (i + (1 : Int32)).toNatClampNeg) (xs (i + (2 : Int32)).toNatClampNeg) mcel mtint mcells mnear mthere mways mmore mthrown _ h) rfl rfl gL_law_X1_tint rfl (by decide +kernel) ⟨Nat.le_of_ble_eq_true rfl, Nat.le_of_ble_eq_true rfl⟩ rfl (av := [.int (xs (i + (1 : Int32)).toNatClampNeg), .int (xs (i + (2 : Int32)).toNatClampNeg)]) (b := U 0) (ci := 1) (q0 := 0) rfl rfl rfl (Nat.le_of_ble_eq_true rfl) [18, 19, 20, 21, 22, 23, 24] [0, 1, 2, 3, 4, 5, 6, 7, 8, 9, 10, 11, 12, 13, 14, 15, 16, 17, 25] (wr := (((wX0 cI cJ cZ cA V land there near worn_13001 trial fits ways) ++ wJ cI cA (V 7) (fun k => V (k + 8)) joined) ++ [(ao, .inl (cJ, 1, .inr (.inl out_13002)))])) rfl rfl rfl rfl (by decide) dL_law_823 ⟨by show _ ≤ 601024; omega, by show _ ≤ 7293034; omega⟩ (fun r13006 u9 h => ?_)
  obtain ⟨mtint_13004, mthrown_13005⟩ := u9
  refine x_wsub (ws' := (wLaw cI cJ cZ cA V U land there near worn_13001 trial fits ways joined mcel mtint_13004 mcells mnear mthere mways mmore mthrown_13005 ao out_13002)) [0, 1, 2, 3, 4, 5, 6, 7, 8, 9, 10, 11, 12, 13, 14, 15, 16, 17, 19, 20, 21, 22, 23, 24, 25, 18] rfl rfl ?_
  refine x_istore (lv' := [(0, .ref b), (1, .ref (V 0)), (2, .ref (U 0)), (3, .ref ao), (4, .int i), (5, .int k13003), (6, .int r13006)]) (pc := 826) K dL_law_826 (by decide) rfl ?_
  refine x_aload_n (pc := 828) K dL_law_828 2 rfl rfl ?_
  refine x_callVi (pc := 829) (n := 0) K (c_X1_thrown l D cI cJ cZ cA U mcel mtint_13004 mcells mnear mthere mways mmore mthrown_13005 _ h) rfl rfl gL_law_X1_thrown rfl (by decide +kernel) ⟨Nat.le_of_ble_eq_true rfl, Nat.le_of_ble_eq_true rfl⟩ rfl (av := []) (b := U 0) (ci := 1) (q0 := 0) rfl rfl rfl (Nat.le_of_ble_eq_true rfl) [18, 19, 20, 21, 22, 23, 24] [0, 1, 2, 3, 4, 5, 6, 7, 8, 9, 10, 11, 12, 13, 14, 15, 16, 17, 25] (wr := (((wX0 cI cJ cZ cA V land there near worn_13001 trial fits ways) ++ wJ cI cA (V 7) (fun k => V (k + 8)) joined) ++ [(ao, .inl (cJ, 1, .inr (.inl out_13002)))])) rfl rfl rfl rfl (by decide) dL_law_829 ⟨by show _ ≤ 601024; omega, by show _ ≤ 7293034; omega⟩ (fun r13007 _ h => ?_)
  refine x_wsub (ws' := (wLaw cI cJ cZ cA V U land there near worn_13001 trial fits ways joined mcel mtint_13004 mcells mnear mthere mways mmore mthrown_13005 ao out_13002)) [0, 1, 2, 3, 4, 5, 6, 7, 8, 9, 10, 11, 12, 13, 14, 15, 16, 17, 19, 20, 21, 22, 23, 24, 25, 18] rfl rfl ?_
  refine x_iload (pc := 832) K dL_law_832 5 rfl ?_
  refine x_icmp_eq (pc := 834) K dL_law_834 (tgt := 839) (by decide) (fun c9 => ?_) (fun c9 => ?_)
  · have h := h.1 c9
    refine x_iload (pc := 839) K dL_law_839 5 rfl ?_
    refine x_if_ne (pc := 841) K dL_law_841 (tgt := 856) (by decide) (fun c9 => ?_) (fun c9 => ?_)
    · have h := h.1 c9
      refine x_goto (pc := 856) K dL_law_856 (tgt := 1310) (by decide) ?_
      refine x_iinc (v := i + (6 : Int32)) (lv' := [(0, .ref b), (1, .ref (V 0)), (2, .ref (U 0)), (3, .ref ao), (4, .int (i + (6 : Int32))), (5, .int k13003), (6, .int r13006)]) (pc := 1310) K dL_law_1310 (k := 4) rfl rfl (by decide) rfl ?_
      refine x_goto (pc := 1313) K dL_law_1313 (tgt := 23) (by decide) ?_
      refine x_keep [true, true, true, true, true, false, false] rfl ?_
      exact ih (i + (6 : Int32)) land there near worn_13001 trial fits ways joined mcel mtint_13004 mcells mnear mthere mways mmore mthrown_13005 out_13002 _ _ (by omega) (by omega) h
    · have h := h.2 c9
      refine x_aload_n (pc := 844) K dL_law_844 3 rfl rfl ?_
      refine x_iconst (v := 0) (pc := 845) K dL_law_845 (by decide) ?_
      refine x_lald (pc := 846) K 25 1 rfl rfl (by decide) dL_law_846 ?_
      refine x_iload (pc := 847) K dL_law_847 6 rfl ?_
      refine x_i2l (pc := 849) K dL_law_849 ?_
      refine x_lcmp (pc := 850) K dL_law_850 ?_
      refine x_if_eq (pc := 851) K dL_law_851 (tgt := 856) (by decide) (fun c9 => ?_) (fun c9 => ?_)
      · have h := h.1 c9
        refine x_goto (pc := 856) K dL_law_856 (tgt := 1310) (by decide) ?_
        refine x_iinc (v := i + (6 : Int32)) (lv' := [(0, .ref b), (1, .ref (V 0)), (2, .ref (U 0)), (3, .ref ao), (4, .int (i + (6 : Int32))), (5, .int k13003), (6, .int r13006)]) (pc := 1310) K dL_law_1310 (k := 4) rfl rfl (by decide) rfl ?_
        refine x_goto (pc := 1313) K dL_law_1313 (tgt := 23) (by decide) ?_
        refine x_keep [true, true, true, true, true, false, false] rfl ?_
        exact ih (i + (6 : Int32)) land there near worn_13001 trial fits ways joined mcel mtint_13004 mcells mnear mthere mways mmore mthrown_13005 out_13002 _ _ (by omega) (by omega) h
      · have h := h.2 c9
        refine x_iconst (v := 0) (pc := 854) K dL_law_854 (by decide) ?_
        exact h.elim
  · have h := h.2 c9
    refine x_iconst (v := 0) (pc := 837) K dL_law_837 (by decide) ?_
    exact h.elim
set_option maxHeartbeats 4000000 in
set_option maxRecDepth 100000 in
theorem w_L_case13 {X : xC} {l : Launch} {D : va_G} {cI cJ cZ cA : ClassId} {V U : Nat → Nat} {ao b L : Nat} {xs : Nat → Int32} (hst : l.stackTraces = false) (K : xk X l room_1 D vwCl (xtys cI cJ cZ cA) cL_law RL wsL_law 8) (hE : xEx X RX0 [(61, "the block ends before it begins"), (180, "there is no such row or column"), (183, "there is no such country"), (185, "neither a country nor sea"), (187, "there is no such tint"), (189, "there are not so many tints"), (193, "the country is not there or has no tint")]) (hN : xno X) (hsc : xsc X b L xs) {n : Nat} (rec9 : Int32 → (Nat → Int64) → Int32 → (Nat → Int32) → (Nat → Int32) → (Nat → Int32) → (Nat → Int32) → (Nat → Int64) → (Nat → Nat → Int32) → (Nat → Int32) → (Nat → Int32) → (Nat → Int64) → (Nat → Int32) → Int32 → (Nat → Int64) → (Nat → Int64) → Int32 → (Nat → Int64) → Prop) (ih : ∀ (i : Int32) (land : Nat → Int64) (there : Int32) (near : Nat → Int32) (worn : Nat → Int32) (trial : Nat → Int32) (fits : Nat → Int32) (ways : Nat → Int64) (joined : Nat → Nat → Int32) (mcel : Nat → Int32) (mtint : Nat → Int32) (mcells : Nat → Int64) (mnear : Nat → Int32) (mthere : Int32) (mways : Nat → Int64) (mmore : Nat → Int64) (mthrown : Int32) (out : Nat → Int64) (c9 s9 : Nat), c9 + 4 * n ≤ 601024 → s9 + 24 * n ≤ 7293034 → rec9 i land there near worn trial fits ways joined mcel mtint mcells mnear mthere mways mmore mthrown out → xw X c9 s9 23 [(0, .ref b), (1, .ref (V 0)), (2, .ref (U 0)), (3, .ref ao), (4, .int i)] [] (wLaw cI cJ cZ cA V U land there near worn trial fits ways joined mcel mtint mcells mnear mthere mways mmore mthrown ao out)) (i : Int32) (land : Nat → Int64) (there : Int32) (near : Nat → Int32) (worn : Nat → Int32) (trial : Nat → Int32) (fits : Nat → Int32) (ways : Nat → Int64) (joined : Nat → Nat → Int32) (mcel : Nat → Int32) (mtint : Nat → Int32) (mcells : Nat → Int64) (mnear : Nat → Int32) (mthere : Int32) (mways : Nat → Int64) (mmore : Nat → Int64) (mthrown : Int32) (out : Nat → Int64) (c9 s9 : Nat) (hc : c9 + 4 * (n + 1) ≤ 601024) (hs : s9 + 24 * (n + 1) ≤ 7293034) (h : q_L_case13 L xs rec9 i land there near worn trial fits ways joined mcel mtint mcells mnear mthere mways mmore mthrown out) : xw X c9 s9 859 [(0, .ref b), (1, .ref (V 0)), (2, .ref (U 0)), (3, .ref ao), (4, .int i)] [] (wLaw cI cJ cZ cA V U land there near worn trial fits ways joined mcel mtint mcells mnear mthere mways mmore mthrown ao out) := by
  unfold q_L_case13 at h
  refine x_aload_n (pc := 859) K dL_law_859 1 rfl rfl ?_
  refine x_aload_n (pc := 860) K dL_law_860 0 rfl rfl ?_
  refine x_iload (pc := 861) K dL_law_861 4 rfl ?_
  refine x_iconst (v := 1) (pc := 863) K dL_law_863 (by decide) ?_
  refine x_iadd (pc := 864) K dL_law_864 ?_
  have g9 := h.1
  replace h := h.2
  refine x_sld (pc := 865) K hsc g9 dL_law_865 ?_
  clear g9
  refine x_aload_n (pc := 866) K dL_law_866 3 rfl rfl ?_
  refine x_hcallS (pc := 867) (n := 3) K hE hN (by decide) (c_L_tintOf l D cI cJ cZ cA hst V ao (xs (i + (1 : Int32)).toNatClampNeg) land there near worn trial fits ways joined out _ h) rfl rfl gL_law_L_tintOf (hh := [(0, 9, 12, 13)]) rfl (by decide +kernel) ⟨Nat.le_of_ble_eq_true rfl, Nat.le_of_ble_eq_true rfl⟩ rfl (av := [.ref (V 0), .int (xs (i + (1 : Int32)).toNatClampNeg), .ref ao]) rfl (Nat.le_of_ble_eq_true rfl) [0, 1, 2, 3, 4, 5, 6, 7, 8, 9, 10, 11, 12, 13, 14, 15, 16, 17, 25] [18, 19, 20, 21, 22, 23, 24] (wr := (wX1 cI cJ cZ cA U mcel mtint mcells mnear mthere mways mmore mthrown)) rfl rfl rfl rfl (by decide) dL_law_867 ⟨by show _ ≤ 601024; omega, by show _ ≤ 7293034; omega⟩ (fun k14002 out_14001 h => ?_)
  refine x_wsub (ws' := (wLaw cI cJ cZ cA V U land there near worn trial fits ways joined mcel mtint mcells mnear mthere mways mmore mthrown ao out_14001)) [7, 8, 9, 10, 11, 12, 13, 14, 15, 16, 17, 18, 19, 20, 21, 22, 23, 24, 0, 1, 2, 3, 4, 5, 6, 25] rfl rfl ?_
  refine x_istore (lv' := [(0, .ref b), (1, .ref (V 0)), (2, .ref (U 0)), (3, .ref ao), (4, .int i), (5, .int k14002)]) (pc := 870) K dL_law_870 (by decide) rfl ?_
  refine x_aload_n (pc := 872) K dL_law_872 2 rfl rfl ?_
  refine x_aload_n (pc := 873) K dL_law_873 0 rfl rfl ?_
  refine x_iload (pc := 874) K dL_law_874 4 rfl ?_
  refine x_iconst (v := 1) (pc := 876) K dL_law_876 (by decide) ?_
  refine x_iadd (pc := 877) K dL_law_877 ?_
  have g9 := h.1
  replace h := h.2
  refine x_sld (pc := 878) K hsc g9 dL_law_878 ?_
  clear g9
  refine x_callVi (pc := 879) (n := 1) K (c_X1_tintOf l D cI cJ cZ cA U (xs (i + (1 : Int32)).toNatClampNeg) mcel mtint mcells mnear mthere mways mmore mthrown _ h) rfl rfl gL_law_X1_tintOf rfl (by decide +kernel) ⟨Nat.le_of_ble_eq_true rfl, Nat.le_of_ble_eq_true rfl⟩ rfl (av := [.int (xs (i + (1 : Int32)).toNatClampNeg)]) (b := U 0) (ci := 1) (q0 := 0) rfl rfl rfl (Nat.le_of_ble_eq_true rfl) [18, 19, 20, 21, 22, 23, 24] [0, 1, 2, 3, 4, 5, 6, 7, 8, 9, 10, 11, 12, 13, 14, 15, 16, 17, 25] (wr := (((wX0 cI cJ cZ cA V land there near worn trial fits ways) ++ wJ cI cA (V 7) (fun k => V (k + 8)) joined) ++ [(ao, .inl (cJ, 1, .inr (.inl out_14001)))])) rfl rfl rfl rfl (by decide) dL_law_879 ⟨by show _ ≤ 601024; omega, by show _ ≤ 7293034; omega⟩ (fun r14004 mthrown_14003 h => ?_)
  refine x_wsub (ws' := (wLaw cI cJ cZ cA V U land there near worn trial fits ways joined mcel mtint mcells mnear mthere mways mmore mthrown_14003 ao out_14001)) [0, 1, 2, 3, 4, 5, 6, 7, 8, 9, 10, 11, 12, 13, 14, 15, 16, 17, 19, 20, 21, 22, 23, 24, 25, 18] rfl rfl ?_
  refine x_istore (lv' := [(0, .ref b), (1, .ref (V 0)), (2, .ref (U 0)), (3, .ref ao), (4, .int i), (5, .int k14002), (6, .int r14004)]) (pc := 882) K dL_law_882 (by decide) rfl ?_
  refine x_aload_n (pc := 884) K dL_law_884 2 rfl rfl ?_
  refine x_callVi (pc := 885) (n := 0) K (c_X1_thrown l D cI cJ cZ cA U mcel mtint mcells mnear mthere mways mmore mthrown_14003 _ h) rfl rfl gL_law_X1_thrown rfl (by decide +kernel) ⟨Nat.le_of_ble_eq_true rfl, Nat.le_of_ble_eq_true rfl⟩ rfl (av := []) (b := U 0) (ci := 1) (q0 := 0) rfl rfl rfl (Nat.le_of_ble_eq_true rfl) [18, 19, 20, 21, 22, 23, 24] [0, 1, 2, 3, 4, 5, 6, 7, 8, 9, 10, 11, 12, 13, 14, 15, 16, 17, 25] (wr := (((wX0 cI cJ cZ cA V land there near worn trial fits ways) ++ wJ cI cA (V 7) (fun k => V (k + 8)) joined) ++ [(ao, .inl (cJ, 1, .inr (.inl out_14001)))])) rfl rfl rfl rfl (by decide) dL_law_885 ⟨by show _ ≤ 601024; omega, by show _ ≤ 7293034; omega⟩ (fun r14005 _ h => ?_)
  refine x_wsub (ws' := (wLaw cI cJ cZ cA V U land there near worn trial fits ways joined mcel mtint mcells mnear mthere mways mmore mthrown_14003 ao out_14001)) [0, 1, 2, 3, 4, 5, 6, 7, 8, 9, 10, 11, 12, 13, 14, 15, 16, 17, 19, 20, 21, 22, 23, 24, 25, 18] rfl rfl ?_
  refine x_iload (pc := 888) K dL_law_888 5 rfl ?_
  refine x_icmp_eq (pc := 890) K dL_law_890 (tgt := 895) (by decide) (fun c9 => ?_) (fun c9 => ?_)
  · have h := h.1 c9
    refine x_iload (pc := 895) K dL_law_895 5 rfl ?_
    refine x_if_ne (pc := 897) K dL_law_897 (tgt := 912) (by decide) (fun c9 => ?_) (fun c9 => ?_)
    · have h := h.1 c9
      refine x_goto (pc := 912) K dL_law_912 (tgt := 1310) (by decide) ?_
      refine x_iinc (v := i + (6 : Int32)) (lv' := [(0, .ref b), (1, .ref (V 0)), (2, .ref (U 0)), (3, .ref ao), (4, .int (i + (6 : Int32))), (5, .int k14002), (6, .int r14004)]) (pc := 1310) K dL_law_1310 (k := 4) rfl rfl (by decide) rfl ?_
      refine x_goto (pc := 1313) K dL_law_1313 (tgt := 23) (by decide) ?_
      refine x_keep [true, true, true, true, true, false, false] rfl ?_
      exact ih (i + (6 : Int32)) land there near worn trial fits ways joined mcel mtint mcells mnear mthere mways mmore mthrown_14003 out_14001 _ _ (by omega) (by omega) h
    · have h := h.2 c9
      refine x_aload_n (pc := 900) K dL_law_900 3 rfl rfl ?_
      refine x_iconst (v := 0) (pc := 901) K dL_law_901 (by decide) ?_
      refine x_lald (pc := 902) K 25 1 rfl rfl (by decide) dL_law_902 ?_
      refine x_iload (pc := 903) K dL_law_903 6 rfl ?_
      refine x_i2l (pc := 905) K dL_law_905 ?_
      refine x_lcmp (pc := 906) K dL_law_906 ?_
      refine x_if_eq (pc := 907) K dL_law_907 (tgt := 912) (by decide) (fun c9 => ?_) (fun c9 => ?_)
      · have h := h.1 c9
        refine x_goto (pc := 912) K dL_law_912 (tgt := 1310) (by decide) ?_
        refine x_iinc (v := i + (6 : Int32)) (lv' := [(0, .ref b), (1, .ref (V 0)), (2, .ref (U 0)), (3, .ref ao), (4, .int (i + (6 : Int32))), (5, .int k14002), (6, .int r14004)]) (pc := 1310) K dL_law_1310 (k := 4) rfl rfl (by decide) rfl ?_
        refine x_goto (pc := 1313) K dL_law_1313 (tgt := 23) (by decide) ?_
        refine x_keep [true, true, true, true, true, false, false] rfl ?_
        exact ih (i + (6 : Int32)) land there near worn trial fits ways joined mcel mtint mcells mnear mthere mways mmore mthrown_14003 out_14001 _ _ (by omega) (by omega) h
      · have h := h.2 c9
        refine x_iconst (v := 0) (pc := 910) K dL_law_910 (by decide) ?_
        exact h.elim
  · have h := h.2 c9
    refine x_iconst (v := 0) (pc := 893) K dL_law_893 (by decide) ?_
    exact h.elim
set_option maxHeartbeats 4000000 in
set_option maxRecDepth 100000 in
theorem w_L_case14 {X : xC} {l : Launch} {D : va_G} {cI cJ cZ cA : ClassId} {V U : Nat → Nat} {ao b L : Nat} {xs : Nat → Int32} (hst : l.stackTraces = false) (K : xk X l room_1 D vwCl (xtys cI cJ cZ cA) cL_law RL wsL_law 8) (hE : xEx X RX0 [(61, "the block ends before it begins"), (180, "there is no such row or column"), (183, "there is no such country"), (185, "neither a country nor sea"), (187, "there is no such tint"), (189, "there are not so many tints"), (193, "the country is not there or has no tint")]) (hN : xno X) (hsc : xsc X b L xs) {n : Nat} (rec9 : Int32 → (Nat → Int64) → Int32 → (Nat → Int32) → (Nat → Int32) → (Nat → Int32) → (Nat → Int32) → (Nat → Int64) → (Nat → Nat → Int32) → (Nat → Int32) → (Nat → Int32) → (Nat → Int64) → (Nat → Int32) → Int32 → (Nat → Int64) → (Nat → Int64) → Int32 → (Nat → Int64) → Prop) (ih : ∀ (i : Int32) (land : Nat → Int64) (there : Int32) (near : Nat → Int32) (worn : Nat → Int32) (trial : Nat → Int32) (fits : Nat → Int32) (ways : Nat → Int64) (joined : Nat → Nat → Int32) (mcel : Nat → Int32) (mtint : Nat → Int32) (mcells : Nat → Int64) (mnear : Nat → Int32) (mthere : Int32) (mways : Nat → Int64) (mmore : Nat → Int64) (mthrown : Int32) (out : Nat → Int64) (c9 s9 : Nat), c9 + 4 * n ≤ 601024 → s9 + 24 * n ≤ 7293034 → rec9 i land there near worn trial fits ways joined mcel mtint mcells mnear mthere mways mmore mthrown out → xw X c9 s9 23 [(0, .ref b), (1, .ref (V 0)), (2, .ref (U 0)), (3, .ref ao), (4, .int i)] [] (wLaw cI cJ cZ cA V U land there near worn trial fits ways joined mcel mtint mcells mnear mthere mways mmore mthrown ao out)) (i : Int32) (land : Nat → Int64) (there : Int32) (near : Nat → Int32) (worn : Nat → Int32) (trial : Nat → Int32) (fits : Nat → Int32) (ways : Nat → Int64) (joined : Nat → Nat → Int32) (mcel : Nat → Int32) (mtint : Nat → Int32) (mcells : Nat → Int64) (mnear : Nat → Int32) (mthere : Int32) (mways : Nat → Int64) (mmore : Nat → Int64) (mthrown : Int32) (out : Nat → Int64) (c9 s9 : Nat) (hc : c9 + 4 * (n + 1) ≤ 601024) (hs : s9 + 24 * (n + 1) ≤ 7293034) (h : q_L_case14 L xs rec9 i land there near worn trial fits ways joined mcel mtint mcells mnear mthere mways mmore mthrown out) : xw X c9 s9 915 [(0, .ref b), (1, .ref (V 0)), (2, .ref (U 0)), (3, .ref ao), (4, .int i)] [] (wLaw cI cJ cZ cA V U land there near worn trial fits ways joined mcel mtint mcells mnear mthere mways mmore mthrown ao out) := by
  unfold q_L_case14 at h
  refine x_aload_n (pc := 915) K dL_law_915 1 rfl rfl ?_
  refine x_callVi (pc := 916) (n := 0) K (c_X0_conflicts l D cI cJ cZ cA V land there near worn trial fits ways _ h) rfl rfl gL_law_X0_conflicts rfl (by decide +kernel) ⟨Nat.le_of_ble_eq_true rfl, Nat.le_of_ble_eq_true rfl⟩ rfl (av := []) (b := V 0) (ci := 0) (q0 := 0) rfl rfl rfl (Nat.le_of_ble_eq_true rfl) [0, 1, 2, 3, 4, 5, 6] [7, 8, 9, 10, 11, 12, 13, 14, 15, 16, 17, 18, 19, 20, 21, 22, 23, 24, 25] (wr := ((wJ cI cA (V 7) (fun k => V (k + 8)) joined ++ wX1 cI cJ cZ cA U mcel mtint mcells mnear mthere mways mmore mthrown) ++ [(ao, .inl (cJ, 1, .inr (.inl out)))])) rfl rfl rfl rfl (by decide) dL_law_916 ⟨by show _ ≤ 601024; omega, by show _ ≤ 7293034; omega⟩ (fun r15001 _ h => ?_)
  refine x_wsub (ws' := (wLaw cI cJ cZ cA V U land there near worn trial fits ways joined mcel mtint mcells mnear mthere mways mmore mthrown ao out)) [19, 20, 21, 22, 23, 24, 25, 0, 1, 2, 3, 4, 5, 6, 7, 8, 9, 10, 11, 12, 13, 14, 15, 16, 17, 18] rfl rfl ?_
  refine x_aload_n (pc := 919) K dL_law_919 2 rfl rfl ?_
  refine x_callVi (pc := 920) (n := 0) K (c_X1_conflicts l D cI cJ cZ cA U mcel mtint mcells mnear mthere mways mmore mthrown _ h) rfl rfl gL_law_X1_conflicts rfl (by decide +kernel) ⟨Nat.le_of_ble_eq_true rfl, Nat.le_of_ble_eq_true rfl⟩ rfl (av := []) (b := U 0) (ci := 1) (q0 := 0) rfl rfl rfl (Nat.le_of_ble_eq_true rfl) [18, 19, 20, 21, 22, 23, 24] [0, 1, 2, 3, 4, 5, 6, 7, 8, 9, 10, 11, 12, 13, 14, 15, 16, 17, 25] (wr := (((wX0 cI cJ cZ cA V land there near worn trial fits ways) ++ wJ cI cA (V 7) (fun k => V (k + 8)) joined) ++ [(ao, .inl (cJ, 1, .inr (.inl out)))])) rfl rfl rfl rfl (by decide) dL_law_920 ⟨by show _ ≤ 601024; omega, by show _ ≤ 7293034; omega⟩ (fun r15006 u9 h => ?_)
  obtain ⟨mcells_15002, mnear_15003, mthere_15004, mthrown_15005⟩ := u9
  refine x_wsub (ws' := (wLaw cI cJ cZ cA V U land there near worn trial fits ways joined mcel mtint mcells_15002 mnear_15003 mthere_15004 mways mmore mthrown_15005 ao out)) [0, 1, 2, 3, 4, 5, 6, 7, 8, 9, 10, 11, 12, 13, 14, 15, 16, 17, 19, 20, 21, 22, 23, 24, 25, 18] rfl rfl ?_
  refine x_icmp_eq (pc := 923) K dL_law_923 (tgt := 1310) (by decide) (fun c9 => ?_) (fun c9 => ?_)
  · have h := h.1 c9
    refine x_iinc (v := i + (6 : Int32)) (lv' := [(0, .ref b), (1, .ref (V 0)), (2, .ref (U 0)), (3, .ref ao), (4, .int (i + (6 : Int32)))]) (pc := 1310) K dL_law_1310 (k := 4) rfl rfl (by decide) rfl ?_
    refine x_goto (pc := 1313) K dL_law_1313 (tgt := 23) (by decide) ?_
    exact ih (i + (6 : Int32)) land there near worn trial fits ways joined mcel mtint mcells_15002 mnear_15003 mthere_15004 mways mmore mthrown_15005 out _ _ (by omega) (by omega) h
  · have h := h.2 c9
    refine x_iconst (v := 0) (pc := 926) K dL_law_926 (by decide) ?_
    exact h.elim
set_option maxHeartbeats 4000000 in
set_option maxRecDepth 100000 in
theorem w_L_case15 {X : xC} {l : Launch} {D : va_G} {cI cJ cZ cA : ClassId} {V U : Nat → Nat} {ao b L : Nat} {xs : Nat → Int32} (hst : l.stackTraces = false) (K : xk X l room_1 D vwCl (xtys cI cJ cZ cA) cL_law RL wsL_law 8) (hE : xEx X RX0 [(61, "the block ends before it begins"), (180, "there is no such row or column"), (183, "there is no such country"), (185, "neither a country nor sea"), (187, "there is no such tint"), (189, "there are not so many tints"), (193, "the country is not there or has no tint")]) (hN : xno X) (hsc : xsc X b L xs) {n : Nat} (rec9 : Int32 → (Nat → Int64) → Int32 → (Nat → Int32) → (Nat → Int32) → (Nat → Int32) → (Nat → Int32) → (Nat → Int64) → (Nat → Nat → Int32) → (Nat → Int32) → (Nat → Int32) → (Nat → Int64) → (Nat → Int32) → Int32 → (Nat → Int64) → (Nat → Int64) → Int32 → (Nat → Int64) → Prop) (ih : ∀ (i : Int32) (land : Nat → Int64) (there : Int32) (near : Nat → Int32) (worn : Nat → Int32) (trial : Nat → Int32) (fits : Nat → Int32) (ways : Nat → Int64) (joined : Nat → Nat → Int32) (mcel : Nat → Int32) (mtint : Nat → Int32) (mcells : Nat → Int64) (mnear : Nat → Int32) (mthere : Int32) (mways : Nat → Int64) (mmore : Nat → Int64) (mthrown : Int32) (out : Nat → Int64) (c9 s9 : Nat), c9 + 4 * n ≤ 601024 → s9 + 24 * n ≤ 7293034 → rec9 i land there near worn trial fits ways joined mcel mtint mcells mnear mthere mways mmore mthrown out → xw X c9 s9 23 [(0, .ref b), (1, .ref (V 0)), (2, .ref (U 0)), (3, .ref ao), (4, .int i)] [] (wLaw cI cJ cZ cA V U land there near worn trial fits ways joined mcel mtint mcells mnear mthere mways mmore mthrown ao out)) (i : Int32) (land : Nat → Int64) (there : Int32) (near : Nat → Int32) (worn : Nat → Int32) (trial : Nat → Int32) (fits : Nat → Int32) (ways : Nat → Int64) (joined : Nat → Nat → Int32) (mcel : Nat → Int32) (mtint : Nat → Int32) (mcells : Nat → Int64) (mnear : Nat → Int32) (mthere : Int32) (mways : Nat → Int64) (mmore : Nat → Int64) (mthrown : Int32) (out : Nat → Int64) (c9 s9 : Nat) (hc : c9 + 4 * (n + 1) ≤ 601024) (hs : s9 + 24 * (n + 1) ≤ 7293034) (h : q_L_case15 L xs rec9 i land there near worn trial fits ways joined mcel mtint mcells mnear mthere mways mmore mthrown out) : xw X c9 s9 928 [(0, .ref b), (1, .ref (V 0)), (2, .ref (U 0)), (3, .ref ao), (4, .int i)] [] (wLaw cI cJ cZ cA V U land there near worn trial fits ways joined mcel mtint mcells mnear mthere mways mmore mthrown ao out) := by
  unfold q_L_case15 at h
  refine x_aload_n (pc := 928) K dL_law_928 1 rfl rfl ?_
  refine x_callVz (pc := 929) (n := 0) K (c_X0_isTinted l D cI cJ cZ cA V land there near worn trial fits ways _ h) rfl rfl gL_law_X0_isTinted rfl (by decide +kernel) ⟨Nat.le_of_ble_eq_true rfl, Nat.le_of_ble_eq_true rfl⟩ rfl (av := []) (b := V 0) (ci := 0) (q0 := 0) rfl rfl rfl (Nat.le_of_ble_eq_true rfl) [0, 1, 2, 3, 4, 5, 6] [7, 8, 9, 10, 11, 12, 13, 14, 15, 16, 17, 18, 19, 20, 21, 22, 23, 24, 25] (wr := ((wJ cI cA (V 7) (fun k => V (k + 8)) joined ++ wX1 cI cJ cZ cA U mcel mtint mcells mnear mthere mways mmore mthrown) ++ [(ao, .inl (cJ, 1, .inr (.inl out)))])) rfl rfl rfl rfl (by decide) dL_law_929 ⟨by show _ ≤ 601024; omega, by show _ ≤ 7293034; omega⟩ (fun r16001 _ h => ?_)
  refine x_wsub (ws' := (wLaw cI cJ cZ cA V U land there near worn trial fits ways joined mcel mtint mcells mnear mthere mways mmore mthrown ao out)) [19, 20, 21, 22, 23, 24, 25, 0, 1, 2, 3, 4, 5, 6, 7, 8, 9, 10, 11, 12, 13, 14, 15, 16, 17, 18] rfl rfl ?_
  refine x_aload_n (pc := 932) K dL_law_932 2 rfl rfl ?_
  refine x_callVz (pc := 933) (n := 0) K (c_X1_isTinted l D cI cJ cZ cA U mcel mtint mcells mnear mthere mways mmore mthrown _ h) rfl rfl gL_law_X1_isTinted rfl (by decide +kernel) ⟨Nat.le_of_ble_eq_true rfl, Nat.le_of_ble_eq_true rfl⟩ rfl (av := []) (b := U 0) (ci := 1) (q0 := 0) rfl rfl rfl (Nat.le_of_ble_eq_true rfl) [18, 19, 20, 21, 22, 23, 24] [0, 1, 2, 3, 4, 5, 6, 7, 8, 9, 10, 11, 12, 13, 14, 15, 16, 17, 25] (wr := (((wX0 cI cJ cZ cA V land there near worn trial fits ways) ++ wJ cI cA (V 7) (fun k => V (k + 8)) joined) ++ [(ao, .inl (cJ, 1, .inr (.inl out)))])) rfl rfl rfl rfl (by decide) dL_law_933 ⟨by show _ ≤ 601024; omega, by show _ ≤ 7293034; omega⟩ (fun r16006 u9 h => ?_)
  obtain ⟨mcells_16002, mnear_16003, mthere_16004, mthrown_16005⟩ := u9
  refine x_wsub (ws' := (wLaw cI cJ cZ cA V U land there near worn trial fits ways joined mcel mtint mcells_16002 mnear_16003 mthere_16004 mways mmore mthrown_16005 ao out)) [0, 1, 2, 3, 4, 5, 6, 7, 8, 9, 10, 11, 12, 13, 14, 15, 16, 17, 19, 20, 21, 22, 23, 24, 25, 18] rfl rfl ?_
  refine x_icmp_eq (pc := 936) K dL_law_936 (tgt := 1310) (by decide) (fun c9 => ?_) (fun c9 => ?_)
  · have h := h.1 c9
    refine x_iinc (v := i + (6 : Int32)) (lv' := [(0, .ref b), (1, .ref (V 0)), (2, .ref (U 0)), (3, .ref ao), (4, .int (i + (6 : Int32)))]) (pc := 1310) K dL_law_1310 (k := 4) rfl rfl (by decide) rfl ?_
    refine x_goto (pc := 1313) K dL_law_1313 (tgt := 23) (by decide) ?_
    exact ih (i + (6 : Int32)) land there near worn trial fits ways joined mcel mtint mcells_16002 mnear_16003 mthere_16004 mways mmore mthrown_16005 out _ _ (by omega) (by omega) h
  · have h := h.2 c9
    refine x_iconst (v := 0) (pc := 939) K dL_law_939 (by decide) ?_
    exact h.elim
set_option maxHeartbeats 4000000 in
set_option maxRecDepth 100000 in
theorem w_L_case16 {X : xC} {l : Launch} {D : va_G} {cI cJ cZ cA : ClassId} {V U : Nat → Nat} {ao b L : Nat} {xs : Nat → Int32} (hst : l.stackTraces = false) (K : xk X l room_1 D vwCl (xtys cI cJ cZ cA) cL_law RL wsL_law 8) (hE : xEx X RX0 [(61, "the block ends before it begins"), (180, "there is no such row or column"), (183, "there is no such country"), (185, "neither a country nor sea"), (187, "there is no such tint"), (189, "there are not so many tints"), (193, "the country is not there or has no tint")]) (hN : xno X) (hsc : xsc X b L xs) {n : Nat} (rec9 : Int32 → (Nat → Int64) → Int32 → (Nat → Int32) → (Nat → Int32) → (Nat → Int32) → (Nat → Int32) → (Nat → Int64) → (Nat → Nat → Int32) → (Nat → Int32) → (Nat → Int32) → (Nat → Int64) → (Nat → Int32) → Int32 → (Nat → Int64) → (Nat → Int64) → Int32 → (Nat → Int64) → Prop) (ih : ∀ (i : Int32) (land : Nat → Int64) (there : Int32) (near : Nat → Int32) (worn : Nat → Int32) (trial : Nat → Int32) (fits : Nat → Int32) (ways : Nat → Int64) (joined : Nat → Nat → Int32) (mcel : Nat → Int32) (mtint : Nat → Int32) (mcells : Nat → Int64) (mnear : Nat → Int32) (mthere : Int32) (mways : Nat → Int64) (mmore : Nat → Int64) (mthrown : Int32) (out : Nat → Int64) (c9 s9 : Nat), c9 + 4 * n ≤ 601024 → s9 + 24 * n ≤ 7293034 → rec9 i land there near worn trial fits ways joined mcel mtint mcells mnear mthere mways mmore mthrown out → xw X c9 s9 23 [(0, .ref b), (1, .ref (V 0)), (2, .ref (U 0)), (3, .ref ao), (4, .int i)] [] (wLaw cI cJ cZ cA V U land there near worn trial fits ways joined mcel mtint mcells mnear mthere mways mmore mthrown ao out)) (i : Int32) (land : Nat → Int64) (there : Int32) (near : Nat → Int32) (worn : Nat → Int32) (trial : Nat → Int32) (fits : Nat → Int32) (ways : Nat → Int64) (joined : Nat → Nat → Int32) (mcel : Nat → Int32) (mtint : Nat → Int32) (mcells : Nat → Int64) (mnear : Nat → Int32) (mthere : Int32) (mways : Nat → Int64) (mmore : Nat → Int64) (mthrown : Int32) (out : Nat → Int64) (c9 s9 : Nat) (hc : c9 + 4 * (n + 1) ≤ 601024) (hs : s9 + 24 * (n + 1) ≤ 7293034) (h : q_L_case16 L xs rec9 i land there near worn trial fits ways joined mcel mtint mcells mnear mthere mways mmore mthrown out) : xw X c9 s9 941 [(0, .ref b), (1, .ref (V 0)), (2, .ref (U 0)), (3, .ref ao), (4, .int i)] [] (wLaw cI cJ cZ cA V U land there near worn trial fits ways joined mcel mtint mcells mnear mthere mways mmore mthrown ao out) := by
  unfold q_L_case16 at h
  refine x_aload_n (pc := 941) K dL_law_941 1 rfl rfl ?_
  refine x_aload_n (pc := 942) K dL_law_942 0 rfl rfl ?_
  refine x_iload (pc := 943) K dL_law_943 4 rfl ?_
  refine x_iconst (v := 1) (pc := 945) K dL_law_945 (by decide) ?_
  refine x_iadd (pc := 946) K dL_law_946 ?_
  have g9 := h.1
  replace h := h.2
  refine x_sld (pc := 947) K hsc g9 dL_law_947 ?_
  clear g9
  refine x_aload_n (pc := 948) K dL_law_948 3 rfl rfl ?_
  refine x_hcallS (pc := 949) (n := 3) K hE hN (by decide) (c_L_leastFree l D cI cJ cZ cA hst V ao (xs (i + (1 : Int32)).toNatClampNeg) land there near worn trial fits ways joined out _ h) rfl rfl gL_law_L_leastFree (hh := [(0, 9, 12, 13)]) rfl (by decide +kernel) ⟨Nat.le_of_ble_eq_true rfl, Nat.le_of_ble_eq_true rfl⟩ rfl (av := [.ref (V 0), .int (xs (i + (1 : Int32)).toNatClampNeg), .ref ao]) rfl (Nat.le_of_ble_eq_true rfl) [0, 1, 2, 3, 4, 5, 6, 7, 8, 9, 10, 11, 12, 13, 14, 15, 16, 17, 25] [18, 19, 20, 21, 22, 23, 24] (wr := (wX1 cI cJ cZ cA U mcel mtint mcells mnear mthere mways mmore mthrown)) rfl rfl rfl rfl (by decide) dL_law_949 ⟨by show _ ≤ 601024; omega, by show _ ≤ 7293034; omega⟩ (fun k17002 out_17001 h => ?_)
  refine x_wsub (ws' := (wLaw cI cJ cZ cA V U land there near worn trial fits ways joined mcel mtint mcells mnear mthere mways mmore mthrown ao out_17001)) [7, 8, 9, 10, 11, 12, 13, 14, 15, 16, 17, 18, 19, 20, 21, 22, 23, 24, 0, 1, 2, 3, 4, 5, 6, 25] rfl rfl ?_
  refine x_istore (lv' := [(0, .ref b), (1, .ref (V 0)), (2, .ref (U 0)), (3, .ref ao), (4, .int i), (5, .int k17002)]) (pc := 952) K dL_law_952 (by decide) rfl ?_
  refine x_aload_n (pc := 954) K dL_law_954 2 rfl rfl ?_
  refine x_aload_n (pc := 955) K dL_law_955 0 rfl rfl ?_
  refine x_iload (pc := 956) K dL_law_956 4 rfl ?_
  refine x_iconst (v := 1) (pc := 958) K dL_law_958 (by decide) ?_
  refine x_iadd (pc := 959) K dL_law_959 ?_
  have g9 := h.1
  replace h := h.2
  refine x_sld (pc := 960) K hsc g9 dL_law_960 ?_
  clear g9
  refine x_callVi (pc := 961) (n := 1) K (c_X1_leastFree l D cI cJ cZ cA U (xs (i + (1 : Int32)).toNatClampNeg) mcel mtint mcells mnear mthere mways mmore mthrown _ h) rfl rfl gL_law_X1_leastFree rfl (by decide +kernel) ⟨Nat.le_of_ble_eq_true rfl, Nat.le_of_ble_eq_true rfl⟩ rfl (av := [.int (xs (i + (1 : Int32)).toNatClampNeg)]) (b := U 0) (ci := 1) (q0 := 0) rfl rfl rfl (Nat.le_of_ble_eq_true rfl) [18, 19, 20, 21, 22, 23, 24] [0, 1, 2, 3, 4, 5, 6, 7, 8, 9, 10, 11, 12, 13, 14, 15, 16, 17, 25] (wr := (((wX0 cI cJ cZ cA V land there near worn trial fits ways) ++ wJ cI cA (V 7) (fun k => V (k + 8)) joined) ++ [(ao, .inl (cJ, 1, .inr (.inl out_17001)))])) rfl rfl rfl rfl (by decide) dL_law_961 ⟨by show _ ≤ 601024; omega, by show _ ≤ 7293034; omega⟩ (fun r17007 u9 h => ?_)
  obtain ⟨mcells_17003, mnear_17004, mthere_17005, mthrown_17006⟩ := u9
  refine x_wsub (ws' := (wLaw cI cJ cZ cA V U land there near worn trial fits ways joined mcel mtint mcells_17003 mnear_17004 mthere_17005 mways mmore mthrown_17006 ao out_17001)) [0, 1, 2, 3, 4, 5, 6, 7, 8, 9, 10, 11, 12, 13, 14, 15, 16, 17, 19, 20, 21, 22, 23, 24, 25, 18] rfl rfl ?_
  refine x_istore (lv' := [(0, .ref b), (1, .ref (V 0)), (2, .ref (U 0)), (3, .ref ao), (4, .int i), (5, .int k17002), (6, .int r17007)]) (pc := 964) K dL_law_964 (by decide) rfl ?_
  refine x_aload_n (pc := 966) K dL_law_966 2 rfl rfl ?_
  refine x_callVi (pc := 967) (n := 0) K (c_X1_thrown l D cI cJ cZ cA U mcel mtint mcells_17003 mnear_17004 mthere_17005 mways mmore mthrown_17006 _ h) rfl rfl gL_law_X1_thrown rfl (by decide +kernel) ⟨Nat.le_of_ble_eq_true rfl, Nat.le_of_ble_eq_true rfl⟩ rfl (av := []) (b := U 0) (ci := 1) (q0 := 0) rfl rfl rfl (Nat.le_of_ble_eq_true rfl) [18, 19, 20, 21, 22, 23, 24] [0, 1, 2, 3, 4, 5, 6, 7, 8, 9, 10, 11, 12, 13, 14, 15, 16, 17, 25] (wr := (((wX0 cI cJ cZ cA V land there near worn trial fits ways) ++ wJ cI cA (V 7) (fun k => V (k + 8)) joined) ++ [(ao, .inl (cJ, 1, .inr (.inl out_17001)))])) rfl rfl rfl rfl (by decide) dL_law_967 ⟨by show _ ≤ 601024; omega, by show _ ≤ 7293034; omega⟩ (fun r17008 _ h => ?_)
  refine x_wsub (ws' := (wLaw cI cJ cZ cA V U land there near worn trial fits ways joined mcel mtint mcells_17003 mnear_17004 mthere_17005 mways mmore mthrown_17006 ao out_17001)) [0, 1, 2, 3, 4, 5, 6, 7, 8, 9, 10, 11, 12, 13, 14, 15, 16, 17, 19, 20, 21, 22, 23, 24, 25, 18] rfl rfl ?_
  refine x_iload (pc := 970) K dL_law_970 5 rfl ?_
  refine x_icmp_eq (pc := 972) K dL_law_972 (tgt := 977) (by decide) (fun c9 => ?_) (fun c9 => ?_)
  · have h := h.1 c9
    refine x_iload (pc := 977) K dL_law_977 5 rfl ?_
    refine x_if_ne (pc := 979) K dL_law_979 (tgt := 994) (by decide) (fun c9 => ?_) (fun c9 => ?_)
    · have h := h.1 c9
      refine x_goto (pc := 994) K dL_law_994 (tgt := 1310) (by decide) ?_
      refine x_iinc (v := i + (6 : Int32)) (lv' := [(0, .ref b), (1, .ref (V 0)), (2, .ref (U 0)), (3, .ref ao), (4, .int (i + (6 : Int32))), (5, .int k17002), (6, .int r17007)]) (pc := 1310) K dL_law_1310 (k := 4) rfl rfl (by decide) rfl ?_
      refine x_goto (pc := 1313) K dL_law_1313 (tgt := 23) (by decide) ?_
      refine x_keep [true, true, true, true, true, false, false] rfl ?_
      exact ih (i + (6 : Int32)) land there near worn trial fits ways joined mcel mtint mcells_17003 mnear_17004 mthere_17005 mways mmore mthrown_17006 out_17001 _ _ (by omega) (by omega) h
    · have h := h.2 c9
      refine x_aload_n (pc := 982) K dL_law_982 3 rfl rfl ?_
      refine x_iconst (v := 0) (pc := 983) K dL_law_983 (by decide) ?_
      refine x_lald (pc := 984) K 25 1 rfl rfl (by decide) dL_law_984 ?_
      refine x_iload (pc := 985) K dL_law_985 6 rfl ?_
      refine x_i2l (pc := 987) K dL_law_987 ?_
      refine x_lcmp (pc := 988) K dL_law_988 ?_
      refine x_if_eq (pc := 989) K dL_law_989 (tgt := 994) (by decide) (fun c9 => ?_) (fun c9 => ?_)
      · have h := h.1 c9
        refine x_goto (pc := 994) K dL_law_994 (tgt := 1310) (by decide) ?_
        refine x_iinc (v := i + (6 : Int32)) (lv' := [(0, .ref b), (1, .ref (V 0)), (2, .ref (U 0)), (3, .ref ao), (4, .int (i + (6 : Int32))), (5, .int k17002), (6, .int r17007)]) (pc := 1310) K dL_law_1310 (k := 4) rfl rfl (by decide) rfl ?_
        refine x_goto (pc := 1313) K dL_law_1313 (tgt := 23) (by decide) ?_
        refine x_keep [true, true, true, true, true, false, false] rfl ?_
        exact ih (i + (6 : Int32)) land there near worn trial fits ways joined mcel mtint mcells_17003 mnear_17004 mthere_17005 mways mmore mthrown_17006 out_17001 _ _ (by omega) (by omega) h
      · have h := h.2 c9
        refine x_iconst (v := 0) (pc := 992) K dL_law_992 (by decide) ?_
        exact h.elim
  · have h := h.2 c9
    refine x_iconst (v := 0) (pc := 975) K dL_law_975 (by decide) ?_
    exact h.elim
set_option maxHeartbeats 4000000 in
set_option maxRecDepth 100000 in
theorem w_L_case17 {X : xC} {l : Launch} {D : va_G} {cI cJ cZ cA : ClassId} {V U : Nat → Nat} {ao b L : Nat} {xs : Nat → Int32} (hst : l.stackTraces = false) (K : xk X l room_1 D vwCl (xtys cI cJ cZ cA) cL_law RL wsL_law 8) (hE : xEx X RX0 [(61, "the block ends before it begins"), (180, "there is no such row or column"), (183, "there is no such country"), (185, "neither a country nor sea"), (187, "there is no such tint"), (189, "there are not so many tints"), (193, "the country is not there or has no tint")]) (hN : xno X) (hsc : xsc X b L xs) {n : Nat} (rec9 : Int32 → (Nat → Int64) → Int32 → (Nat → Int32) → (Nat → Int32) → (Nat → Int32) → (Nat → Int32) → (Nat → Int64) → (Nat → Nat → Int32) → (Nat → Int32) → (Nat → Int32) → (Nat → Int64) → (Nat → Int32) → Int32 → (Nat → Int64) → (Nat → Int64) → Int32 → (Nat → Int64) → Prop) (ih : ∀ (i : Int32) (land : Nat → Int64) (there : Int32) (near : Nat → Int32) (worn : Nat → Int32) (trial : Nat → Int32) (fits : Nat → Int32) (ways : Nat → Int64) (joined : Nat → Nat → Int32) (mcel : Nat → Int32) (mtint : Nat → Int32) (mcells : Nat → Int64) (mnear : Nat → Int32) (mthere : Int32) (mways : Nat → Int64) (mmore : Nat → Int64) (mthrown : Int32) (out : Nat → Int64) (c9 s9 : Nat), c9 + 4 * n ≤ 601024 → s9 + 24 * n ≤ 7293034 → rec9 i land there near worn trial fits ways joined mcel mtint mcells mnear mthere mways mmore mthrown out → xw X c9 s9 23 [(0, .ref b), (1, .ref (V 0)), (2, .ref (U 0)), (3, .ref ao), (4, .int i)] [] (wLaw cI cJ cZ cA V U land there near worn trial fits ways joined mcel mtint mcells mnear mthere mways mmore mthrown ao out)) (i : Int32) (land : Nat → Int64) (there : Int32) (near : Nat → Int32) (worn : Nat → Int32) (trial : Nat → Int32) (fits : Nat → Int32) (ways : Nat → Int64) (joined : Nat → Nat → Int32) (mcel : Nat → Int32) (mtint : Nat → Int32) (mcells : Nat → Int64) (mnear : Nat → Int32) (mthere : Int32) (mways : Nat → Int64) (mmore : Nat → Int64) (mthrown : Int32) (out : Nat → Int64) (c9 s9 : Nat) (hc : c9 + 4 * (n + 1) ≤ 601024) (hs : s9 + 24 * (n + 1) ≤ 7293034) (h : q_L_case17 L xs rec9 i land there near worn trial fits ways joined mcel mtint mcells mnear mthere mways mmore mthrown out) : xw X c9 s9 997 [(0, .ref b), (1, .ref (V 0)), (2, .ref (U 0)), (3, .ref ao), (4, .int i)] [] (wLaw cI cJ cZ cA V U land there near worn trial fits ways joined mcel mtint mcells mnear mthere mways mmore mthrown ao out) := by
  unfold q_L_case17 at h
  refine x_aload_n (pc := 997) K dL_law_997 1 rfl rfl ?_
  refine x_aload_n (pc := 998) K dL_law_998 0 rfl rfl ?_
  refine x_iload (pc := 999) K dL_law_999 4 rfl ?_
  refine x_iconst (v := 1) (pc := 1001) K dL_law_1001 (by decide) ?_
  refine x_iadd (pc := 1002) K dL_law_1002 ?_
  have g9 := h.1
  replace h := h.2
  refine x_sld (pc := 1003) K hsc g9 dL_law_1003 ?_
  clear g9
  refine x_aload_n (pc := 1004) K dL_law_1004 0 rfl rfl ?_
  refine x_iload (pc := 1005) K dL_law_1005 4 rfl ?_
  refine x_iconst (v := 2) (pc := 1007) K dL_law_1007 (by decide) ?_
  refine x_iadd (pc := 1008) K dL_law_1008 ?_
  have g9 := h.1
  replace h := h.2
  refine x_sld (pc := 1009) K hsc g9 dL_law_1009 ?_
  clear g9
  refine x_aload_n (pc := 1010) K dL_law_1010 3 rfl rfl ?_
  refine x_hcallS (pc := 1011) (n := 4) K hE hN (by decide) (c_L_chain l D cI cJ cZ cA hst V ao (xs (i + (1 : Int32)).toNatClampNeg) (xs (i + (2 : Int32)).toNatClampNeg) land there near worn trial fits ways joined out _ h) rfl rfl gL_law_L_chain (hh := [(0, 10, 13, 13), (0, 10, 17, 15), (0, 10, 21, 56)]) rfl (by decide +kernel) ⟨Nat.le_of_ble_eq_true rfl, Nat.le_of_ble_eq_true rfl⟩ rfl (av := [.ref (V 0), .int (xs (i + (1 : Int32)).toNatClampNeg), .int (xs (i + (2 : Int32)).toNatClampNeg), .ref ao]) rfl (Nat.le_of_ble_eq_true rfl) [0, 1, 2, 3, 4, 5, 6, 7, 8, 9, 10, 11, 12, 13, 14, 15, 16, 17, 25] [18, 19, 20, 21, 22, 23, 24] (wr := (wX1 cI cJ cZ cA U mcel mtint mcells mnear mthere mways mmore mthrown)) rfl rfl rfl rfl (by decide) dL_law_1011 ⟨by show _ ≤ 601024; omega, by show _ ≤ 7293034; omega⟩ (fun k18002 out_18001 h => ?_)
  refine x_wsub (ws' := (wLaw cI cJ cZ cA V U land there near worn trial fits ways joined mcel mtint mcells mnear mthere mways mmore mthrown ao out_18001)) [7, 8, 9, 10, 11, 12, 13, 14, 15, 16, 17, 18, 19, 20, 21, 22, 23, 24, 0, 1, 2, 3, 4, 5, 6, 25] rfl rfl ?_
  refine x_istore (lv' := [(0, .ref b), (1, .ref (V 0)), (2, .ref (U 0)), (3, .ref ao), (4, .int i), (5, .int k18002)]) (pc := 1014) K dL_law_1014 (by decide) rfl ?_
  refine x_aload_n (pc := 1016) K dL_law_1016 2 rfl rfl ?_
  refine x_aload_n (pc := 1017) K dL_law_1017 0 rfl rfl ?_
  refine x_iload (pc := 1018) K dL_law_1018 4 rfl ?_
  refine x_iconst (v := 1) (pc := 1020) K dL_law_1020 (by decide) ?_
  refine x_iadd (pc := 1021) K dL_law_1021 ?_
  have g9 := h.1
  replace h := h.2
  refine x_sld (pc := 1022) K hsc g9 dL_law_1022 ?_
  clear g9
  refine x_aload_n (pc := 1023) K dL_law_1023 0 rfl rfl ?_
  refine x_iload (pc := 1024) K dL_law_1024 4 rfl ?_
  refine x_iconst (v := 2) (pc := 1026) K dL_law_1026 (by decide) ?_
  refine x_iadd (pc := 1027) K dL_law_1027 ?_
  have g9 := h.1
  replace h := h.2
  refine x_sld (pc := 1028) K hsc g9 dL_law_1028 ?_
  clear g9
  refine x_callVi (pc := 1029) (n := 2) K (c_X1_chain l D cI cJ cZ cA U (xs (i + (1 : Int32)).toNatClampNeg) (xs (i + (2 : Int32)).toNatClampNeg) mcel mtint mcells mnear mthere mways mmore mthrown _ h) rfl rfl gL_law_X1_chain rfl (by decide +kernel) ⟨Nat.le_of_ble_eq_true rfl, Nat.le_of_ble_eq_true rfl⟩ rfl (av := [.int (xs (i + (1 : Int32)).toNatClampNeg), .int (xs (i + (2 : Int32)).toNatClampNeg)]) (b := U 0) (ci := 1) (q0 := 0) rfl rfl rfl (Nat.le_of_ble_eq_true rfl) [18, 19, 20, 21, 22, 23, 24] [0, 1, 2, 3, 4, 5, 6, 7, 8, 9, 10, 11, 12, 13, 14, 15, 16, 17, 25] (wr := (((wX0 cI cJ cZ cA V land there near worn trial fits ways) ++ wJ cI cA (V 7) (fun k => V (k + 8)) joined) ++ [(ao, .inl (cJ, 1, .inr (.inl out_18001)))])) rfl rfl rfl rfl (by decide) dL_law_1029 ⟨by show _ ≤ 601024; omega, by show _ ≤ 7293034; omega⟩ (fun r18007 u9 h => ?_)
  obtain ⟨mcells_18003, mnear_18004, mthere_18005, mthrown_18006⟩ := u9
  refine x_wsub (ws' := (wLaw cI cJ cZ cA V U land there near worn trial fits ways joined mcel mtint mcells_18003 mnear_18004 mthere_18005 mways mmore mthrown_18006 ao out_18001)) [0, 1, 2, 3, 4, 5, 6, 7, 8, 9, 10, 11, 12, 13, 14, 15, 16, 17, 19, 20, 21, 22, 23, 24, 25, 18] rfl rfl ?_
  refine x_istore (lv' := [(0, .ref b), (1, .ref (V 0)), (2, .ref (U 0)), (3, .ref ao), (4, .int i), (5, .int k18002), (6, .int r18007)]) (pc := 1032) K dL_law_1032 (by decide) rfl ?_
  refine x_aload_n (pc := 1034) K dL_law_1034 2 rfl rfl ?_
  refine x_callVi (pc := 1035) (n := 0) K (c_X1_thrown l D cI cJ cZ cA U mcel mtint mcells_18003 mnear_18004 mthere_18005 mways mmore mthrown_18006 _ h) rfl rfl gL_law_X1_thrown rfl (by decide +kernel) ⟨Nat.le_of_ble_eq_true rfl, Nat.le_of_ble_eq_true rfl⟩ rfl (av := []) (b := U 0) (ci := 1) (q0 := 0) rfl rfl rfl (Nat.le_of_ble_eq_true rfl) [18, 19, 20, 21, 22, 23, 24] [0, 1, 2, 3, 4, 5, 6, 7, 8, 9, 10, 11, 12, 13, 14, 15, 16, 17, 25] (wr := (((wX0 cI cJ cZ cA V land there near worn trial fits ways) ++ wJ cI cA (V 7) (fun k => V (k + 8)) joined) ++ [(ao, .inl (cJ, 1, .inr (.inl out_18001)))])) rfl rfl rfl rfl (by decide) dL_law_1035 ⟨by show _ ≤ 601024; omega, by show _ ≤ 7293034; omega⟩ (fun r18008 _ h => ?_)
  refine x_wsub (ws' := (wLaw cI cJ cZ cA V U land there near worn trial fits ways joined mcel mtint mcells_18003 mnear_18004 mthere_18005 mways mmore mthrown_18006 ao out_18001)) [0, 1, 2, 3, 4, 5, 6, 7, 8, 9, 10, 11, 12, 13, 14, 15, 16, 17, 19, 20, 21, 22, 23, 24, 25, 18] rfl rfl ?_
  refine x_iload (pc := 1038) K dL_law_1038 5 rfl ?_
  refine x_icmp_eq (pc := 1040) K dL_law_1040 (tgt := 1045) (by decide) (fun c9 => ?_) (fun c9 => ?_)
  · have h := h.1 c9
    refine x_iload (pc := 1045) K dL_law_1045 5 rfl ?_
    refine x_if_ne (pc := 1047) K dL_law_1047 (tgt := 1062) (by decide) (fun c9 => ?_) (fun c9 => ?_)
    · have h := h.1 c9
      refine x_goto (pc := 1062) K dL_law_1062 (tgt := 1310) (by decide) ?_
      refine x_iinc (v := i + (6 : Int32)) (lv' := [(0, .ref b), (1, .ref (V 0)), (2, .ref (U 0)), (3, .ref ao), (4, .int (i + (6 : Int32))), (5, .int k18002), (6, .int r18007)]) (pc := 1310) K dL_law_1310 (k := 4) rfl rfl (by decide) rfl ?_
      refine x_goto (pc := 1313) K dL_law_1313 (tgt := 23) (by decide) ?_
      refine x_keep [true, true, true, true, true, false, false] rfl ?_
      exact ih (i + (6 : Int32)) land there near worn trial fits ways joined mcel mtint mcells_18003 mnear_18004 mthere_18005 mways mmore mthrown_18006 out_18001 _ _ (by omega) (by omega) h
    · have h := h.2 c9
      refine x_aload_n (pc := 1050) K dL_law_1050 3 rfl rfl ?_
      refine x_iconst (v := 0) (pc := 1051) K dL_law_1051 (by decide) ?_
      refine x_lald (pc := 1052) K 25 1 rfl rfl (by decide) dL_law_1052 ?_
      refine x_iload (pc := 1053) K dL_law_1053 6 rfl ?_
      refine x_i2l (pc := 1055) K dL_law_1055 ?_
      refine x_lcmp (pc := 1056) K dL_law_1056 ?_
      refine x_if_eq (pc := 1057) K dL_law_1057 (tgt := 1062) (by decide) (fun c9 => ?_) (fun c9 => ?_)
      · have h := h.1 c9
        refine x_goto (pc := 1062) K dL_law_1062 (tgt := 1310) (by decide) ?_
        refine x_iinc (v := i + (6 : Int32)) (lv' := [(0, .ref b), (1, .ref (V 0)), (2, .ref (U 0)), (3, .ref ao), (4, .int (i + (6 : Int32))), (5, .int k18002), (6, .int r18007)]) (pc := 1310) K dL_law_1310 (k := 4) rfl rfl (by decide) rfl ?_
        refine x_goto (pc := 1313) K dL_law_1313 (tgt := 23) (by decide) ?_
        refine x_keep [true, true, true, true, true, false, false] rfl ?_
        exact ih (i + (6 : Int32)) land there near worn trial fits ways joined mcel mtint mcells_18003 mnear_18004 mthere_18005 mways mmore mthrown_18006 out_18001 _ _ (by omega) (by omega) h
      · have h := h.2 c9
        refine x_iconst (v := 0) (pc := 1060) K dL_law_1060 (by decide) ?_
        exact h.elim
  · have h := h.2 c9
    refine x_iconst (v := 0) (pc := 1043) K dL_law_1043 (by decide) ?_
    exact h.elim
set_option maxHeartbeats 4000000 in
set_option maxRecDepth 100000 in
theorem w_L_case18 {X : xC} {l : Launch} {D : va_G} {cI cJ cZ cA : ClassId} {V U : Nat → Nat} {ao b L : Nat} {xs : Nat → Int32} (hst : l.stackTraces = false) (K : xk X l room_1 D vwCl (xtys cI cJ cZ cA) cL_law RL wsL_law 8) (hE : xEx X RX0 [(61, "the block ends before it begins"), (180, "there is no such row or column"), (183, "there is no such country"), (185, "neither a country nor sea"), (187, "there is no such tint"), (189, "there are not so many tints"), (193, "the country is not there or has no tint")]) (hN : xno X) (hsc : xsc X b L xs) {n : Nat} (rec9 : Int32 → (Nat → Int64) → Int32 → (Nat → Int32) → (Nat → Int32) → (Nat → Int32) → (Nat → Int32) → (Nat → Int64) → (Nat → Nat → Int32) → (Nat → Int32) → (Nat → Int32) → (Nat → Int64) → (Nat → Int32) → Int32 → (Nat → Int64) → (Nat → Int64) → Int32 → (Nat → Int64) → Prop) (ih : ∀ (i : Int32) (land : Nat → Int64) (there : Int32) (near : Nat → Int32) (worn : Nat → Int32) (trial : Nat → Int32) (fits : Nat → Int32) (ways : Nat → Int64) (joined : Nat → Nat → Int32) (mcel : Nat → Int32) (mtint : Nat → Int32) (mcells : Nat → Int64) (mnear : Nat → Int32) (mthere : Int32) (mways : Nat → Int64) (mmore : Nat → Int64) (mthrown : Int32) (out : Nat → Int64) (c9 s9 : Nat), c9 + 4 * n ≤ 601024 → s9 + 24 * n ≤ 7293034 → rec9 i land there near worn trial fits ways joined mcel mtint mcells mnear mthere mways mmore mthrown out → xw X c9 s9 23 [(0, .ref b), (1, .ref (V 0)), (2, .ref (U 0)), (3, .ref ao), (4, .int i)] [] (wLaw cI cJ cZ cA V U land there near worn trial fits ways joined mcel mtint mcells mnear mthere mways mmore mthrown ao out)) (i : Int32) (land : Nat → Int64) (there : Int32) (near : Nat → Int32) (worn : Nat → Int32) (trial : Nat → Int32) (fits : Nat → Int32) (ways : Nat → Int64) (joined : Nat → Nat → Int32) (mcel : Nat → Int32) (mtint : Nat → Int32) (mcells : Nat → Int64) (mnear : Nat → Int32) (mthere : Int32) (mways : Nat → Int64) (mmore : Nat → Int64) (mthrown : Int32) (out : Nat → Int64) (c9 s9 : Nat) (hc : c9 + 4 * (n + 1) ≤ 601024) (hs : s9 + 24 * (n + 1) ≤ 7293034) (h : q_L_case18 L xs rec9 i land there near worn trial fits ways joined mcel mtint mcells mnear mthere mways mmore mthrown out) : xw X c9 s9 1065 [(0, .ref b), (1, .ref (V 0)), (2, .ref (U 0)), (3, .ref ao), (4, .int i)] [] (wLaw cI cJ cZ cA V U land there near worn trial fits ways joined mcel mtint mcells mnear mthere mways mmore mthrown ao out) := by
  unfold q_L_case18 at h
  refine x_aload_n (pc := 1065) K dL_law_1065 1 rfl rfl ?_
  refine x_aload_n (pc := 1066) K dL_law_1066 0 rfl rfl ?_
  refine x_iload (pc := 1067) K dL_law_1067 4 rfl ?_
  refine x_iconst (v := 1) (pc := 1069) K dL_law_1069 (by decide) ?_
  refine x_iadd (pc := 1070) K dL_law_1070 ?_
  have g9 := h.1
  replace h := h.2
  refine x_sld (pc := 1071) K hsc g9 dL_law_1071 ?_
  clear g9
  refine x_aload_n (pc := 1072) K dL_law_1072 0 rfl rfl ?_
  refine x_iload (pc := 1073) K dL_law_1073 4 rfl ?_
  refine x_iconst (v := 2) (pc := 1075) K dL_law_1075 (by decide) ?_
  refine x_iadd (pc := 1076) K dL_law_1076 ?_
  have g9 := h.1
  replace h := h.2
  refine x_sld (pc := 1077) K hsc g9 dL_law_1077 ?_
  clear g9
  refine x_aload_n (pc := 1078) K dL_law_1078 3 rfl rfl ?_
  refine x_hcallS (pc := 1079) (n := 4) K hE hN (by decide) (c_L_exchange l D cI cJ cZ cA hst V ao (xs (i + (1 : Int32)).toNatClampNeg) (xs (i + (2 : Int32)).toNatClampNeg) land there near worn trial fits ways joined out _ h) rfl rfl gL_law_L_exchange (hh := [(0, 10, 13, 13), (0, 10, 17, 15), (0, 10, 21, 56)]) rfl (by decide +kernel) ⟨Nat.le_of_ble_eq_true rfl, Nat.le_of_ble_eq_true rfl⟩ rfl (av := [.ref (V 0), .int (xs (i + (1 : Int32)).toNatClampNeg), .int (xs (i + (2 : Int32)).toNatClampNeg), .ref ao]) rfl (Nat.le_of_ble_eq_true rfl) [0, 1, 2, 3, 4, 5, 6, 7, 8, 9, 10, 11, 12, 13, 14, 15, 16, 17, 25] [18, 19, 20, 21, 22, 23, 24] (wr := (wX1 cI cJ cZ cA U mcel mtint mcells mnear mthere mways mmore mthrown)) rfl rfl rfl rfl (by decide) dL_law_1079 ⟨by show _ ≤ 601024; omega, by show _ ≤ 7293034; omega⟩ (fun k19003 u9 h => ?_)
  obtain ⟨worn_19001, out_19002⟩ := u9
  refine x_wsub (ws' := (wLaw cI cJ cZ cA V U land there near worn_19001 trial fits ways joined mcel mtint mcells mnear mthere mways mmore mthrown ao out_19002)) [7, 8, 9, 10, 11, 12, 13, 14, 15, 16, 17, 18, 19, 20, 21, 22, 23, 24, 0, 1, 2, 3, 4, 5, 6, 25] rfl rfl ?_
  refine x_istore (lv' := [(0, .ref b), (1, .ref (V 0)), (2, .ref (U 0)), (3, .ref ao), (4, .int i), (5, .int k19003)]) (pc := 1082) K dL_law_1082 (by decide) rfl ?_
  refine x_aload_n (pc := 1084) K dL_law_1084 2 rfl rfl ?_
  refine x_aload_n (pc := 1085) K dL_law_1085 0 rfl rfl ?_
  refine x_iload (pc := 1086) K dL_law_1086 4 rfl ?_
  refine x_iconst (v := 1) (pc := 1088) K dL_law_1088 (by decide) ?_
  refine x_iadd (pc := 1089) K dL_law_1089 ?_
  have g9 := h.1
  replace h := h.2
  refine x_sld (pc := 1090) K hsc g9 dL_law_1090 ?_
  clear g9
  refine x_aload_n (pc := 1091) K dL_law_1091 0 rfl rfl ?_
  refine x_iload (pc := 1092) K dL_law_1092 4 rfl ?_
  refine x_iconst (v := 2) (pc := 1094) K dL_law_1094 (by decide) ?_
  refine x_iadd (pc := 1095) K dL_law_1095 ?_
  have g9 := h.1
  replace h := h.2
  refine x_sld (pc := 1096) K hsc g9 dL_law_1096 ?_
  clear g9
  refine x_callVi (pc := 1097) (n := 2) K (c_X1_exchange l D cI cJ cZ cA U (xs (i + (1 : Int32)).toNatClampNeg) (xs (i + (2 : Int32)).toNatClampNeg) mcel mtint mcells mnear mthere mways mmore mthrown _ h) rfl rfl gL_law_X1_exchange rfl (by decide +kernel) ⟨Nat.le_of_ble_eq_true rfl, Nat.le_of_ble_eq_true rfl⟩ rfl (av := [.int (xs (i + (1 : Int32)).toNatClampNeg), .int (xs (i + (2 : Int32)).toNatClampNeg)]) (b := U 0) (ci := 1) (q0 := 0) rfl rfl rfl (Nat.le_of_ble_eq_true rfl) [18, 19, 20, 21, 22, 23, 24] [0, 1, 2, 3, 4, 5, 6, 7, 8, 9, 10, 11, 12, 13, 14, 15, 16, 17, 25] (wr := (((wX0 cI cJ cZ cA V land there near worn_19001 trial fits ways) ++ wJ cI cA (V 7) (fun k => V (k + 8)) joined) ++ [(ao, .inl (cJ, 1, .inr (.inl out_19002)))])) rfl rfl rfl rfl (by decide) dL_law_1097 ⟨by show _ ≤ 601024; omega, by show _ ≤ 7293034; omega⟩ (fun r19009 u9 h => ?_)
  obtain ⟨mtint_19004, mcells_19005, mnear_19006, mthere_19007, mthrown_19008⟩ := u9
  refine x_wsub (ws' := (wLaw cI cJ cZ cA V U land there near worn_19001 trial fits ways joined mcel mtint_19004 mcells_19005 mnear_19006 mthere_19007 mways mmore mthrown_19008 ao out_19002)) [0, 1, 2, 3, 4, 5, 6, 7, 8, 9, 10, 11, 12, 13, 14, 15, 16, 17, 19, 20, 21, 22, 23, 24, 25, 18] rfl rfl ?_
  refine x_istore (lv' := [(0, .ref b), (1, .ref (V 0)), (2, .ref (U 0)), (3, .ref ao), (4, .int i), (5, .int k19003), (6, .int r19009)]) (pc := 1100) K dL_law_1100 (by decide) rfl ?_
  refine x_aload_n (pc := 1102) K dL_law_1102 2 rfl rfl ?_
  refine x_callVi (pc := 1103) (n := 0) K (c_X1_thrown l D cI cJ cZ cA U mcel mtint_19004 mcells_19005 mnear_19006 mthere_19007 mways mmore mthrown_19008 _ h) rfl rfl gL_law_X1_thrown rfl (by decide +kernel) ⟨Nat.le_of_ble_eq_true rfl, Nat.le_of_ble_eq_true rfl⟩ rfl (av := []) (b := U 0) (ci := 1) (q0 := 0) rfl rfl rfl (Nat.le_of_ble_eq_true rfl) [18, 19, 20, 21, 22, 23, 24] [0, 1, 2, 3, 4, 5, 6, 7, 8, 9, 10, 11, 12, 13, 14, 15, 16, 17, 25] (wr := (((wX0 cI cJ cZ cA V land there near worn_19001 trial fits ways) ++ wJ cI cA (V 7) (fun k => V (k + 8)) joined) ++ [(ao, .inl (cJ, 1, .inr (.inl out_19002)))])) rfl rfl rfl rfl (by decide) dL_law_1103 ⟨by show _ ≤ 601024; omega, by show _ ≤ 7293034; omega⟩ (fun r19010 _ h => ?_)
  refine x_wsub (ws' := (wLaw cI cJ cZ cA V U land there near worn_19001 trial fits ways joined mcel mtint_19004 mcells_19005 mnear_19006 mthere_19007 mways mmore mthrown_19008 ao out_19002)) [0, 1, 2, 3, 4, 5, 6, 7, 8, 9, 10, 11, 12, 13, 14, 15, 16, 17, 19, 20, 21, 22, 23, 24, 25, 18] rfl rfl ?_
  refine x_iload (pc := 1106) K dL_law_1106 5 rfl ?_
  refine x_icmp_eq (pc := 1108) K dL_law_1108 (tgt := 1113) (by decide) (fun c9 => ?_) (fun c9 => ?_)
  · have h := h.1 c9
    refine x_iload (pc := 1113) K dL_law_1113 5 rfl ?_
    refine x_if_ne (pc := 1115) K dL_law_1115 (tgt := 1130) (by decide) (fun c9 => ?_) (fun c9 => ?_)
    · have h := h.1 c9
      refine x_goto (pc := 1130) K dL_law_1130 (tgt := 1310) (by decide) ?_
      refine x_iinc (v := i + (6 : Int32)) (lv' := [(0, .ref b), (1, .ref (V 0)), (2, .ref (U 0)), (3, .ref ao), (4, .int (i + (6 : Int32))), (5, .int k19003), (6, .int r19009)]) (pc := 1310) K dL_law_1310 (k := 4) rfl rfl (by decide) rfl ?_
      refine x_goto (pc := 1313) K dL_law_1313 (tgt := 23) (by decide) ?_
      refine x_keep [true, true, true, true, true, false, false] rfl ?_
      exact ih (i + (6 : Int32)) land there near worn_19001 trial fits ways joined mcel mtint_19004 mcells_19005 mnear_19006 mthere_19007 mways mmore mthrown_19008 out_19002 _ _ (by omega) (by omega) h
    · have h := h.2 c9
      refine x_aload_n (pc := 1118) K dL_law_1118 3 rfl rfl ?_
      refine x_iconst (v := 0) (pc := 1119) K dL_law_1119 (by decide) ?_
      refine x_lald (pc := 1120) K 25 1 rfl rfl (by decide) dL_law_1120 ?_
      refine x_iload (pc := 1121) K dL_law_1121 6 rfl ?_
      refine x_i2l (pc := 1123) K dL_law_1123 ?_
      refine x_lcmp (pc := 1124) K dL_law_1124 ?_
      refine x_if_eq (pc := 1125) K dL_law_1125 (tgt := 1130) (by decide) (fun c9 => ?_) (fun c9 => ?_)
      · have h := h.1 c9
        refine x_goto (pc := 1130) K dL_law_1130 (tgt := 1310) (by decide) ?_
        refine x_iinc (v := i + (6 : Int32)) (lv' := [(0, .ref b), (1, .ref (V 0)), (2, .ref (U 0)), (3, .ref ao), (4, .int (i + (6 : Int32))), (5, .int k19003), (6, .int r19009)]) (pc := 1310) K dL_law_1310 (k := 4) rfl rfl (by decide) rfl ?_
        refine x_goto (pc := 1313) K dL_law_1313 (tgt := 23) (by decide) ?_
        refine x_keep [true, true, true, true, true, false, false] rfl ?_
        exact ih (i + (6 : Int32)) land there near worn_19001 trial fits ways joined mcel mtint_19004 mcells_19005 mnear_19006 mthere_19007 mways mmore mthrown_19008 out_19002 _ _ (by omega) (by omega) h
      · have h := h.2 c9
        refine x_iconst (v := 0) (pc := 1128) K dL_law_1128 (by decide) ?_
        exact h.elim
  · have h := h.2 c9
    refine x_iconst (v := 0) (pc := 1111) K dL_law_1111 (by decide) ?_
    exact h.elim
set_option maxHeartbeats 4000000 in
set_option maxRecDepth 100000 in
theorem w_L_case19 {X : xC} {l : Launch} {D : va_G} {cI cJ cZ cA : ClassId} {V U : Nat → Nat} {ao b L : Nat} {xs : Nat → Int32} (hst : l.stackTraces = false) (K : xk X l room_1 D vwCl (xtys cI cJ cZ cA) cL_law RL wsL_law 8) (hE : xEx X RX0 [(61, "the block ends before it begins"), (180, "there is no such row or column"), (183, "there is no such country"), (185, "neither a country nor sea"), (187, "there is no such tint"), (189, "there are not so many tints"), (193, "the country is not there or has no tint")]) (hN : xno X) (hsc : xsc X b L xs) {n : Nat} (rec9 : Int32 → (Nat → Int64) → Int32 → (Nat → Int32) → (Nat → Int32) → (Nat → Int32) → (Nat → Int32) → (Nat → Int64) → (Nat → Nat → Int32) → (Nat → Int32) → (Nat → Int32) → (Nat → Int64) → (Nat → Int32) → Int32 → (Nat → Int64) → (Nat → Int64) → Int32 → (Nat → Int64) → Prop) (ih : ∀ (i : Int32) (land : Nat → Int64) (there : Int32) (near : Nat → Int32) (worn : Nat → Int32) (trial : Nat → Int32) (fits : Nat → Int32) (ways : Nat → Int64) (joined : Nat → Nat → Int32) (mcel : Nat → Int32) (mtint : Nat → Int32) (mcells : Nat → Int64) (mnear : Nat → Int32) (mthere : Int32) (mways : Nat → Int64) (mmore : Nat → Int64) (mthrown : Int32) (out : Nat → Int64) (c9 s9 : Nat), c9 + 4 * n ≤ 601024 → s9 + 24 * n ≤ 7293034 → rec9 i land there near worn trial fits ways joined mcel mtint mcells mnear mthere mways mmore mthrown out → xw X c9 s9 23 [(0, .ref b), (1, .ref (V 0)), (2, .ref (U 0)), (3, .ref ao), (4, .int i)] [] (wLaw cI cJ cZ cA V U land there near worn trial fits ways joined mcel mtint mcells mnear mthere mways mmore mthrown ao out)) (i : Int32) (land : Nat → Int64) (there : Int32) (near : Nat → Int32) (worn : Nat → Int32) (trial : Nat → Int32) (fits : Nat → Int32) (ways : Nat → Int64) (joined : Nat → Nat → Int32) (mcel : Nat → Int32) (mtint : Nat → Int32) (mcells : Nat → Int64) (mnear : Nat → Int32) (mthere : Int32) (mways : Nat → Int64) (mmore : Nat → Int64) (mthrown : Int32) (out : Nat → Int64) (c9 s9 : Nat) (hc : c9 + 4 * (n + 1) ≤ 601024) (hs : s9 + 24 * (n + 1) ≤ 7293034) (h : q_L_case19 L xs rec9 i land there near worn trial fits ways joined mcel mtint mcells mnear mthere mways mmore mthrown out) : xw X c9 s9 1133 [(0, .ref b), (1, .ref (V 0)), (2, .ref (U 0)), (3, .ref ao), (4, .int i)] [] (wLaw cI cJ cZ cA V U land there near worn trial fits ways joined mcel mtint mcells mnear mthere mways mmore mthrown ao out) := by
  unfold q_L_case19 at h
  refine x_aload_n (pc := 1133) K dL_law_1133 1 rfl rfl ?_
  refine x_aload_n (pc := 1134) K dL_law_1134 0 rfl rfl ?_
  refine x_iload (pc := 1135) K dL_law_1135 4 rfl ?_
  refine x_iconst (v := 1) (pc := 1137) K dL_law_1137 (by decide) ?_
  refine x_iadd (pc := 1138) K dL_law_1138 ?_
  have g9 := h.1
  replace h := h.2
  refine x_sld (pc := 1139) K hsc g9 dL_law_1139 ?_
  clear g9
  refine x_if_eq (pc := 1140) K dL_law_1140 (tgt := 1147) (by decide) (fun c9 => ?_) (fun c9 => ?_)
  · have h := h.1 c9
    refine x_iconst (v := 0) (pc := 1147) K dL_law_1147 (by decide) ?_
    refine x_callVi (pc := 1148) (n := 1) K (c_X0_tintInOrder l D cI cJ cZ cA V (0 : Int32) land there near worn trial fits ways _ h) rfl rfl gL_law_X0_tintInOrder rfl (by decide +kernel) ⟨Nat.le_of_ble_eq_true rfl, Nat.le_of_ble_eq_true rfl⟩ rfl (av := [.int (0 : Int32)]) (b := V 0) (ci := 0) (q0 := 0) rfl rfl rfl (Nat.le_of_ble_eq_true rfl) [0, 1, 2, 3, 4, 5, 6] [7, 8, 9, 10, 11, 12, 13, 14, 15, 16, 17, 18, 19, 20, 21, 22, 23, 24, 25] (wr := ((wJ cI cA (V 7) (fun k => V (k + 8)) joined ++ wX1 cI cJ cZ cA U mcel mtint mcells mnear mthere mways mmore mthrown) ++ [(ao, .inl (cJ, 1, .inr (.inl out)))])) rfl rfl rfl rfl (by decide) dL_law_1148 ⟨by show _ ≤ 601024; omega, by show _ ≤ 7293034; omega⟩ (fun r20002 worn_20001 h => ?_)
    refine x_wsub (ws' := (wLaw cI cJ cZ cA V U land there near worn_20001 trial fits ways joined mcel mtint mcells mnear mthere mways mmore mthrown ao out)) [19, 20, 21, 22, 23, 24, 25, 0, 1, 2, 3, 4, 5, 6, 7, 8, 9, 10, 11, 12, 13, 14, 15, 16, 17, 18] rfl rfl ?_
    refine x_aload_n (pc := 1151) K dL_law_1151 2 rfl rfl ?_
    refine x_aload_n (pc := 1152) K dL_law_1152 0 rfl rfl ?_
    refine x_iload (pc := 1153) K dL_law_1153 4 rfl ?_
    refine x_iconst (v := 1) (pc := 1155) K dL_law_1155 (by decide) ?_
    refine x_iadd (pc := 1156) K dL_law_1156 ?_
    have g9 := h.1
    replace h := h.2
    refine x_sld (pc := 1157) K hsc g9 dL_law_1157 ?_
    clear g9
    refine x_if_eq (pc := 1158) K dL_law_1158 (tgt := 1165) (by decide) (fun c9 => ?_) (fun c9 => ?_)
    · have h := h.1 c9
      refine x_iconst (v := 0) (pc := 1165) K dL_law_1165 (by decide) ?_
      refine x_callVi (pc := 1166) (n := 1) K (c_X1_tintInOrder l D cI cJ cZ cA U (0 : Int32) mcel mtint mcells mnear mthere mways mmore mthrown _ h) rfl rfl gL_law_X1_tintInOrder rfl (by decide +kernel) ⟨Nat.le_of_ble_eq_true rfl, Nat.le_of_ble_eq_true rfl⟩ rfl (av := [.int (0 : Int32)]) (b := U 0) (ci := 1) (q0 := 0) rfl rfl rfl (Nat.le_of_ble_eq_true rfl) [18, 19, 20, 21, 22, 23, 24] [0, 1, 2, 3, 4, 5, 6, 7, 8, 9, 10, 11, 12, 13, 14, 15, 16, 17, 25] (wr := (((wX0 cI cJ cZ cA V land there near worn_20001 trial fits ways) ++ wJ cI cA (V 7) (fun k => V (k + 8)) joined) ++ [(ao, .inl (cJ, 1, .inr (.inl out)))])) rfl rfl rfl rfl (by decide) dL_law_1166 ⟨by show _ ≤ 601024; omega, by show _ ≤ 7293034; omega⟩ (fun r20008 u9 h => ?_)
      obtain ⟨mtint_20003, mcells_20004, mnear_20005, mthere_20006, mthrown_20007⟩ := u9
      refine x_wsub (ws' := (wLaw cI cJ cZ cA V U land there near worn_20001 trial fits ways joined mcel mtint_20003 mcells_20004 mnear_20005 mthere_20006 mways mmore mthrown_20007 ao out)) [0, 1, 2, 3, 4, 5, 6, 7, 8, 9, 10, 11, 12, 13, 14, 15, 16, 17, 19, 20, 21, 22, 23, 24, 25, 18] rfl rfl ?_
      refine x_icmp_eq (pc := 1169) K dL_law_1169 (tgt := 1310) (by decide) (fun c9 => ?_) (fun c9 => ?_)
      · have h := h.1 c9
        refine x_iinc (v := i + (6 : Int32)) (lv' := [(0, .ref b), (1, .ref (V 0)), (2, .ref (U 0)), (3, .ref ao), (4, .int (i + (6 : Int32)))]) (pc := 1310) K dL_law_1310 (k := 4) rfl rfl (by decide) rfl ?_
        refine x_goto (pc := 1313) K dL_law_1313 (tgt := 23) (by decide) ?_
        exact ih (i + (6 : Int32)) land there near worn_20001 trial fits ways joined mcel mtint_20003 mcells_20004 mnear_20005 mthere_20006 mways mmore mthrown_20007 out _ _ (by omega) (by omega) h
      · have h := h.2 c9
        refine x_iconst (v := 0) (pc := 1172) K dL_law_1172 (by decide) ?_
        exact h.elim
    · have h := h.2 c9
      refine x_iconst (v := 1) (pc := 1161) K dL_law_1161 (by decide) ?_
      refine x_goto (pc := 1162) K dL_law_1162 (tgt := 1166) (by decide) ?_
      refine x_callVi (pc := 1166) (n := 1) K (c_X1_tintInOrder l D cI cJ cZ cA U (1 : Int32) mcel mtint mcells mnear mthere mways mmore mthrown _ h) rfl rfl gL_law_X1_tintInOrder rfl (by decide +kernel) ⟨Nat.le_of_ble_eq_true rfl, Nat.le_of_ble_eq_true rfl⟩ rfl (av := [.int (1 : Int32)]) (b := U 0) (ci := 1) (q0 := 0) rfl rfl rfl (Nat.le_of_ble_eq_true rfl) [18, 19, 20, 21, 22, 23, 24] [0, 1, 2, 3, 4, 5, 6, 7, 8, 9, 10, 11, 12, 13, 14, 15, 16, 17, 25] (wr := (((wX0 cI cJ cZ cA V land there near worn_20001 trial fits ways) ++ wJ cI cA (V 7) (fun k => V (k + 8)) joined) ++ [(ao, .inl (cJ, 1, .inr (.inl out)))])) rfl rfl rfl rfl (by decide) dL_law_1166 ⟨by show _ ≤ 601024; omega, by show _ ≤ 7293034; omega⟩ (fun r20014 u9 h => ?_)
      obtain ⟨mtint_20009, mcells_20010, mnear_20011, mthere_20012, mthrown_20013⟩ := u9
      refine x_wsub (ws' := (wLaw cI cJ cZ cA V U land there near worn_20001 trial fits ways joined mcel mtint_20009 mcells_20010 mnear_20011 mthere_20012 mways mmore mthrown_20013 ao out)) [0, 1, 2, 3, 4, 5, 6, 7, 8, 9, 10, 11, 12, 13, 14, 15, 16, 17, 19, 20, 21, 22, 23, 24, 25, 18] rfl rfl ?_
      refine x_icmp_eq (pc := 1169) K dL_law_1169 (tgt := 1310) (by decide) (fun c9 => ?_) (fun c9 => ?_)
      · have h := h.1 c9
        refine x_iinc (v := i + (6 : Int32)) (lv' := [(0, .ref b), (1, .ref (V 0)), (2, .ref (U 0)), (3, .ref ao), (4, .int (i + (6 : Int32)))]) (pc := 1310) K dL_law_1310 (k := 4) rfl rfl (by decide) rfl ?_
        refine x_goto (pc := 1313) K dL_law_1313 (tgt := 23) (by decide) ?_
        exact ih (i + (6 : Int32)) land there near worn_20001 trial fits ways joined mcel mtint_20009 mcells_20010 mnear_20011 mthere_20012 mways mmore mthrown_20013 out _ _ (by omega) (by omega) h
      · have h := h.2 c9
        refine x_iconst (v := 0) (pc := 1172) K dL_law_1172 (by decide) ?_
        exact h.elim
  · have h := h.2 c9
    refine x_iconst (v := 1) (pc := 1143) K dL_law_1143 (by decide) ?_
    refine x_goto (pc := 1144) K dL_law_1144 (tgt := 1148) (by decide) ?_
    refine x_callVi (pc := 1148) (n := 1) K (c_X0_tintInOrder l D cI cJ cZ cA V (1 : Int32) land there near worn trial fits ways _ h) rfl rfl gL_law_X0_tintInOrder rfl (by decide +kernel) ⟨Nat.le_of_ble_eq_true rfl, Nat.le_of_ble_eq_true rfl⟩ rfl (av := [.int (1 : Int32)]) (b := V 0) (ci := 0) (q0 := 0) rfl rfl rfl (Nat.le_of_ble_eq_true rfl) [0, 1, 2, 3, 4, 5, 6] [7, 8, 9, 10, 11, 12, 13, 14, 15, 16, 17, 18, 19, 20, 21, 22, 23, 24, 25] (wr := ((wJ cI cA (V 7) (fun k => V (k + 8)) joined ++ wX1 cI cJ cZ cA U mcel mtint mcells mnear mthere mways mmore mthrown) ++ [(ao, .inl (cJ, 1, .inr (.inl out)))])) rfl rfl rfl rfl (by decide) dL_law_1148 ⟨by show _ ≤ 601024; omega, by show _ ≤ 7293034; omega⟩ (fun r20016 worn_20015 h => ?_)
    refine x_wsub (ws' := (wLaw cI cJ cZ cA V U land there near worn_20015 trial fits ways joined mcel mtint mcells mnear mthere mways mmore mthrown ao out)) [19, 20, 21, 22, 23, 24, 25, 0, 1, 2, 3, 4, 5, 6, 7, 8, 9, 10, 11, 12, 13, 14, 15, 16, 17, 18] rfl rfl ?_
    refine x_aload_n (pc := 1151) K dL_law_1151 2 rfl rfl ?_
    refine x_aload_n (pc := 1152) K dL_law_1152 0 rfl rfl ?_
    refine x_iload (pc := 1153) K dL_law_1153 4 rfl ?_
    refine x_iconst (v := 1) (pc := 1155) K dL_law_1155 (by decide) ?_
    refine x_iadd (pc := 1156) K dL_law_1156 ?_
    have g9 := h.1
    replace h := h.2
    refine x_sld (pc := 1157) K hsc g9 dL_law_1157 ?_
    clear g9
    refine x_if_eq (pc := 1158) K dL_law_1158 (tgt := 1165) (by decide) (fun c9 => ?_) (fun c9 => ?_)
    · have h := h.1 c9
      refine x_iconst (v := 0) (pc := 1165) K dL_law_1165 (by decide) ?_
      refine x_callVi (pc := 1166) (n := 1) K (c_X1_tintInOrder l D cI cJ cZ cA U (0 : Int32) mcel mtint mcells mnear mthere mways mmore mthrown _ h) rfl rfl gL_law_X1_tintInOrder rfl (by decide +kernel) ⟨Nat.le_of_ble_eq_true rfl, Nat.le_of_ble_eq_true rfl⟩ rfl (av := [.int (0 : Int32)]) (b := U 0) (ci := 1) (q0 := 0) rfl rfl rfl (Nat.le_of_ble_eq_true rfl) [18, 19, 20, 21, 22, 23, 24] [0, 1, 2, 3, 4, 5, 6, 7, 8, 9, 10, 11, 12, 13, 14, 15, 16, 17, 25] (wr := (((wX0 cI cJ cZ cA V land there near worn_20015 trial fits ways) ++ wJ cI cA (V 7) (fun k => V (k + 8)) joined) ++ [(ao, .inl (cJ, 1, .inr (.inl out)))])) rfl rfl rfl rfl (by decide) dL_law_1166 ⟨by show _ ≤ 601024; omega, by show _ ≤ 7293034; omega⟩ (fun r20022 u9 h => ?_)
      obtain ⟨mtint_20017, mcells_20018, mnear_20019, mthere_20020, mthrown_20021⟩ := u9
      refine x_wsub (ws' := (wLaw cI cJ cZ cA V U land there near worn_20015 trial fits ways joined mcel mtint_20017 mcells_20018 mnear_20019 mthere_20020 mways mmore mthrown_20021 ao out)) [0, 1, 2, 3, 4, 5, 6, 7, 8, 9, 10, 11, 12, 13, 14, 15, 16, 17, 19, 20, 21, 22, 23, 24, 25, 18] rfl rfl ?_
      refine x_icmp_eq (pc := 1169) K dL_law_1169 (tgt := 1310) (by decide) (fun c9 => ?_) (fun c9 => ?_)
      · have h := h.1 c9
        refine x_iinc (v := i + (6 : Int32)) (lv' := [(0, .ref b), (1, .ref (V 0)), (2, .ref (U 0)), (3, .ref ao), (4, .int (i + (6 : Int32)))]) (pc := 1310) K dL_law_1310 (k := 4) rfl rfl (by decide) rfl ?_
        refine x_goto (pc := 1313) K dL_law_1313 (tgt := 23) (by decide) ?_
        exact ih (i + (6 : Int32)) land there near worn_20015 trial fits ways joined mcel mtint_20017 mcells_20018 mnear_20019 mthere_20020 mways mmore mthrown_20021 out _ _ (by omega) (by omega) h
      · have h := h.2 c9
        refine x_iconst (v := 0) (pc := 1172) K dL_law_1172 (by decide) ?_
        exact h.elim
    · have h := h.2 c9
      refine x_iconst (v := 1) (pc := 1161) K dL_law_1161 (by decide) ?_
      refine x_goto (pc := 1162) K dL_law_1162 (tgt := 1166) (by decide) ?_
      refine x_callVi (pc := 1166) (n := 1) K (c_X1_tintInOrder l D cI cJ cZ cA U (1 : Int32) mcel mtint mcells mnear mthere mways mmore mthrown _ h) rfl rfl gL_law_X1_tintInOrder rfl (by decide +kernel) ⟨Nat.le_of_ble_eq_true rfl, Nat.le_of_ble_eq_true rfl⟩ rfl (av := [.int (1 : Int32)]) (b := U 0) (ci := 1) (q0 := 0) rfl rfl rfl (Nat.le_of_ble_eq_true rfl) [18, 19, 20, 21, 22, 23, 24] [0, 1, 2, 3, 4, 5, 6, 7, 8, 9, 10, 11, 12, 13, 14, 15, 16, 17, 25] (wr := (((wX0 cI cJ cZ cA V land there near worn_20015 trial fits ways) ++ wJ cI cA (V 7) (fun k => V (k + 8)) joined) ++ [(ao, .inl (cJ, 1, .inr (.inl out)))])) rfl rfl rfl rfl (by decide) dL_law_1166 ⟨by show _ ≤ 601024; omega, by show _ ≤ 7293034; omega⟩ (fun r20028 u9 h => ?_)
      obtain ⟨mtint_20023, mcells_20024, mnear_20025, mthere_20026, mthrown_20027⟩ := u9
      refine x_wsub (ws' := (wLaw cI cJ cZ cA V U land there near worn_20015 trial fits ways joined mcel mtint_20023 mcells_20024 mnear_20025 mthere_20026 mways mmore mthrown_20027 ao out)) [0, 1, 2, 3, 4, 5, 6, 7, 8, 9, 10, 11, 12, 13, 14, 15, 16, 17, 19, 20, 21, 22, 23, 24, 25, 18] rfl rfl ?_
      refine x_icmp_eq (pc := 1169) K dL_law_1169 (tgt := 1310) (by decide) (fun c9 => ?_) (fun c9 => ?_)
      · have h := h.1 c9
        refine x_iinc (v := i + (6 : Int32)) (lv' := [(0, .ref b), (1, .ref (V 0)), (2, .ref (U 0)), (3, .ref ao), (4, .int (i + (6 : Int32)))]) (pc := 1310) K dL_law_1310 (k := 4) rfl rfl (by decide) rfl ?_
        refine x_goto (pc := 1313) K dL_law_1313 (tgt := 23) (by decide) ?_
        exact ih (i + (6 : Int32)) land there near worn_20015 trial fits ways joined mcel mtint_20023 mcells_20024 mnear_20025 mthere_20026 mways mmore mthrown_20027 out _ _ (by omega) (by omega) h
      · have h := h.2 c9
        refine x_iconst (v := 0) (pc := 1172) K dL_law_1172 (by decide) ?_
        exact h.elim
set_option maxHeartbeats 4000000 in
set_option maxRecDepth 100000 in
theorem w_L_case20 {X : xC} {l : Launch} {D : va_G} {cI cJ cZ cA : ClassId} {V U : Nat → Nat} {ao b L : Nat} {xs : Nat → Int32} (hst : l.stackTraces = false) (K : xk X l room_1 D vwCl (xtys cI cJ cZ cA) cL_law RL wsL_law 8) (hE : xEx X RX0 [(61, "the block ends before it begins"), (180, "there is no such row or column"), (183, "there is no such country"), (185, "neither a country nor sea"), (187, "there is no such tint"), (189, "there are not so many tints"), (193, "the country is not there or has no tint")]) (hN : xno X) (hsc : xsc X b L xs) {n : Nat} (rec9 : Int32 → (Nat → Int64) → Int32 → (Nat → Int32) → (Nat → Int32) → (Nat → Int32) → (Nat → Int32) → (Nat → Int64) → (Nat → Nat → Int32) → (Nat → Int32) → (Nat → Int32) → (Nat → Int64) → (Nat → Int32) → Int32 → (Nat → Int64) → (Nat → Int64) → Int32 → (Nat → Int64) → Prop) (ih : ∀ (i : Int32) (land : Nat → Int64) (there : Int32) (near : Nat → Int32) (worn : Nat → Int32) (trial : Nat → Int32) (fits : Nat → Int32) (ways : Nat → Int64) (joined : Nat → Nat → Int32) (mcel : Nat → Int32) (mtint : Nat → Int32) (mcells : Nat → Int64) (mnear : Nat → Int32) (mthere : Int32) (mways : Nat → Int64) (mmore : Nat → Int64) (mthrown : Int32) (out : Nat → Int64) (c9 s9 : Nat), c9 + 4 * n ≤ 601024 → s9 + 24 * n ≤ 7293034 → rec9 i land there near worn trial fits ways joined mcel mtint mcells mnear mthere mways mmore mthrown out → xw X c9 s9 23 [(0, .ref b), (1, .ref (V 0)), (2, .ref (U 0)), (3, .ref ao), (4, .int i)] [] (wLaw cI cJ cZ cA V U land there near worn trial fits ways joined mcel mtint mcells mnear mthere mways mmore mthrown ao out)) (i : Int32) (land : Nat → Int64) (there : Int32) (near : Nat → Int32) (worn : Nat → Int32) (trial : Nat → Int32) (fits : Nat → Int32) (ways : Nat → Int64) (joined : Nat → Nat → Int32) (mcel : Nat → Int32) (mtint : Nat → Int32) (mcells : Nat → Int64) (mnear : Nat → Int32) (mthere : Int32) (mways : Nat → Int64) (mmore : Nat → Int64) (mthrown : Int32) (out : Nat → Int64) (c9 s9 : Nat) (hc : c9 + 4 * (n + 1) ≤ 601024) (hs : s9 + 24 * (n + 1) ≤ 7293034) (h : q_L_case20 L xs rec9 i land there near worn trial fits ways joined mcel mtint mcells mnear mthere mways mmore mthrown out) : xw X c9 s9 1174 [(0, .ref b), (1, .ref (V 0)), (2, .ref (U 0)), (3, .ref ao), (4, .int i)] [] (wLaw cI cJ cZ cA V U land there near worn trial fits ways joined mcel mtint mcells mnear mthere mways mmore mthrown ao out) := by
  unfold q_L_case20 at h
  refine x_aload_n (pc := 1174) K dL_law_1174 1 rfl rfl ?_
  refine x_callVi (pc := 1175) (n := 0) K (c_X0_fewestTints l D cI cJ cZ cA V land there near worn trial fits ways _ h) rfl rfl gL_law_X0_fewestTints rfl (by decide +kernel) ⟨Nat.le_of_ble_eq_true rfl, Nat.le_of_ble_eq_true rfl⟩ rfl (av := []) (b := V 0) (ci := 0) (q0 := 0) rfl rfl rfl (Nat.le_of_ble_eq_true rfl) [0, 1, 2, 3, 4, 5, 6] [7, 8, 9, 10, 11, 12, 13, 14, 15, 16, 17, 18, 19, 20, 21, 22, 23, 24, 25] (wr := ((wJ cI cA (V 7) (fun k => V (k + 8)) joined ++ wX1 cI cJ cZ cA U mcel mtint mcells mnear mthere mways mmore mthrown) ++ [(ao, .inl (cJ, 1, .inr (.inl out)))])) rfl rfl rfl rfl (by decide) dL_law_1175 ⟨by show _ ≤ 601024; omega, by show _ ≤ 7293034; omega⟩ (fun r21002 trial_21001 h => ?_)
  refine x_wsub (ws' := (wLaw cI cJ cZ cA V U land there near worn trial_21001 fits ways joined mcel mtint mcells mnear mthere mways mmore mthrown ao out)) [19, 20, 21, 22, 23, 24, 25, 0, 1, 2, 3, 4, 5, 6, 7, 8, 9, 10, 11, 12, 13, 14, 15, 16, 17, 18] rfl rfl ?_
  refine x_aload_n (pc := 1178) K dL_law_1178 2 rfl rfl ?_
  refine x_callVi (pc := 1179) (n := 0) K (c_X1_fewestTints l D cI cJ cZ cA U mcel mtint mcells mnear mthere mways mmore mthrown _ h) rfl rfl gL_law_X1_fewestTints rfl (by decide +kernel) ⟨Nat.le_of_ble_eq_true rfl, Nat.le_of_ble_eq_true rfl⟩ rfl (av := []) (b := U 0) (ci := 1) (q0 := 0) rfl rfl rfl (Nat.le_of_ble_eq_true rfl) [18, 19, 20, 21, 22, 23, 24] [0, 1, 2, 3, 4, 5, 6, 7, 8, 9, 10, 11, 12, 13, 14, 15, 16, 17, 25] (wr := (((wX0 cI cJ cZ cA V land there near worn trial_21001 fits ways) ++ wJ cI cA (V 7) (fun k => V (k + 8)) joined) ++ [(ao, .inl (cJ, 1, .inr (.inl out)))])) rfl rfl rfl rfl (by decide) dL_law_1179 ⟨by show _ ≤ 601024; omega, by show _ ≤ 7293034; omega⟩ (fun r21009 u9 h => ?_)
  obtain ⟨mcells_21003, mnear_21004, mthere_21005, mways_21006, mmore_21007, mthrown_21008⟩ := u9
  refine x_wsub (ws' := (wLaw cI cJ cZ cA V U land there near worn trial_21001 fits ways joined mcel mtint mcells_21003 mnear_21004 mthere_21005 mways_21006 mmore_21007 mthrown_21008 ao out)) [0, 1, 2, 3, 4, 5, 6, 7, 8, 9, 10, 11, 12, 13, 14, 15, 16, 17, 19, 20, 21, 22, 23, 24, 25, 18] rfl rfl ?_
  refine x_icmp_eq (pc := 1182) K dL_law_1182 (tgt := 1310) (by decide) (fun c9 => ?_) (fun c9 => ?_)
  · have h := h.1 c9
    refine x_iinc (v := i + (6 : Int32)) (lv' := [(0, .ref b), (1, .ref (V 0)), (2, .ref (U 0)), (3, .ref ao), (4, .int (i + (6 : Int32)))]) (pc := 1310) K dL_law_1310 (k := 4) rfl rfl (by decide) rfl ?_
    refine x_goto (pc := 1313) K dL_law_1313 (tgt := 23) (by decide) ?_
    exact ih (i + (6 : Int32)) land there near worn trial_21001 fits ways joined mcel mtint mcells_21003 mnear_21004 mthere_21005 mways_21006 mmore_21007 mthrown_21008 out _ _ (by omega) (by omega) h
  · have h := h.2 c9
    refine x_iconst (v := 0) (pc := 1185) K dL_law_1185 (by decide) ?_
    exact h.elim
set_option maxHeartbeats 4000000 in
set_option maxRecDepth 100000 in
theorem w_L_case21 {X : xC} {l : Launch} {D : va_G} {cI cJ cZ cA : ClassId} {V U : Nat → Nat} {ao b L : Nat} {xs : Nat → Int32} (hst : l.stackTraces = false) (K : xk X l room_1 D vwCl (xtys cI cJ cZ cA) cL_law RL wsL_law 8) (hE : xEx X RX0 [(61, "the block ends before it begins"), (180, "there is no such row or column"), (183, "there is no such country"), (185, "neither a country nor sea"), (187, "there is no such tint"), (189, "there are not so many tints"), (193, "the country is not there or has no tint")]) (hN : xno X) (hsc : xsc X b L xs) {n : Nat} (rec9 : Int32 → (Nat → Int64) → Int32 → (Nat → Int32) → (Nat → Int32) → (Nat → Int32) → (Nat → Int32) → (Nat → Int64) → (Nat → Nat → Int32) → (Nat → Int32) → (Nat → Int32) → (Nat → Int64) → (Nat → Int32) → Int32 → (Nat → Int64) → (Nat → Int64) → Int32 → (Nat → Int64) → Prop) (ih : ∀ (i : Int32) (land : Nat → Int64) (there : Int32) (near : Nat → Int32) (worn : Nat → Int32) (trial : Nat → Int32) (fits : Nat → Int32) (ways : Nat → Int64) (joined : Nat → Nat → Int32) (mcel : Nat → Int32) (mtint : Nat → Int32) (mcells : Nat → Int64) (mnear : Nat → Int32) (mthere : Int32) (mways : Nat → Int64) (mmore : Nat → Int64) (mthrown : Int32) (out : Nat → Int64) (c9 s9 : Nat), c9 + 4 * n ≤ 601024 → s9 + 24 * n ≤ 7293034 → rec9 i land there near worn trial fits ways joined mcel mtint mcells mnear mthere mways mmore mthrown out → xw X c9 s9 23 [(0, .ref b), (1, .ref (V 0)), (2, .ref (U 0)), (3, .ref ao), (4, .int i)] [] (wLaw cI cJ cZ cA V U land there near worn trial fits ways joined mcel mtint mcells mnear mthere mways mmore mthrown ao out)) (i : Int32) (land : Nat → Int64) (there : Int32) (near : Nat → Int32) (worn : Nat → Int32) (trial : Nat → Int32) (fits : Nat → Int32) (ways : Nat → Int64) (joined : Nat → Nat → Int32) (mcel : Nat → Int32) (mtint : Nat → Int32) (mcells : Nat → Int64) (mnear : Nat → Int32) (mthere : Int32) (mways : Nat → Int64) (mmore : Nat → Int64) (mthrown : Int32) (out : Nat → Int64) (c9 s9 : Nat) (hc : c9 + 4 * (n + 1) ≤ 601024) (hs : s9 + 24 * (n + 1) ≤ 7293034) (h : q_L_case21 L xs rec9 i land there near worn trial fits ways joined mcel mtint mcells mnear mthere mways mmore mthrown out) : xw X c9 s9 1187 [(0, .ref b), (1, .ref (V 0)), (2, .ref (U 0)), (3, .ref ao), (4, .int i)] [] (wLaw cI cJ cZ cA V U land there near worn trial fits ways joined mcel mtint mcells mnear mthere mways mmore mthrown ao out) := by
  unfold q_L_case21 at h
  refine x_aload_n (pc := 1187) K dL_law_1187 1 rfl rfl ?_
  refine x_callVi (pc := 1188) (n := 0) K (c_X0_tintWithFewest l D cI cJ cZ cA V land there near worn trial fits ways _ h) rfl rfl gL_law_X0_tintWithFewest rfl (by decide +kernel) ⟨Nat.le_of_ble_eq_true rfl, Nat.le_of_ble_eq_true rfl⟩ rfl (av := []) (b := V 0) (ci := 0) (q0 := 0) rfl rfl rfl (Nat.le_of_ble_eq_true rfl) [0, 1, 2, 3, 4, 5, 6] [7, 8, 9, 10, 11, 12, 13, 14, 15, 16, 17, 18, 19, 20, 21, 22, 23, 24, 25] (wr := ((wJ cI cA (V 7) (fun k => V (k + 8)) joined ++ wX1 cI cJ cZ cA U mcel mtint mcells mnear mthere mways mmore mthrown) ++ [(ao, .inl (cJ, 1, .inr (.inl out)))])) rfl rfl rfl rfl (by decide) dL_law_1188 ⟨by show _ ≤ 601024; omega, by show _ ≤ 7293034; omega⟩ (fun r22003 u9 h => ?_)
  obtain ⟨worn_22001, trial_22002⟩ := u9
  refine x_wsub (ws' := (wLaw cI cJ cZ cA V U land there near worn_22001 trial_22002 fits ways joined mcel mtint mcells mnear mthere mways mmore mthrown ao out)) [19, 20, 21, 22, 23, 24, 25, 0, 1, 2, 3, 4, 5, 6, 7, 8, 9, 10, 11, 12, 13, 14, 15, 16, 17, 18] rfl rfl ?_
  refine x_aload_n (pc := 1191) K dL_law_1191 2 rfl rfl ?_
  refine x_callVi (pc := 1192) (n := 0) K (c_X1_tintWithFewest l D cI cJ cZ cA U mcel mtint mcells mnear mthere mways mmore mthrown _ h) rfl rfl gL_law_X1_tintWithFewest rfl (by decide +kernel) ⟨Nat.le_of_ble_eq_true rfl, Nat.le_of_ble_eq_true rfl⟩ rfl (av := []) (b := U 0) (ci := 1) (q0 := 0) rfl rfl rfl (Nat.le_of_ble_eq_true rfl) [18, 19, 20, 21, 22, 23, 24] [0, 1, 2, 3, 4, 5, 6, 7, 8, 9, 10, 11, 12, 13, 14, 15, 16, 17, 25] (wr := (((wX0 cI cJ cZ cA V land there near worn_22001 trial_22002 fits ways) ++ wJ cI cA (V 7) (fun k => V (k + 8)) joined) ++ [(ao, .inl (cJ, 1, .inr (.inl out)))])) rfl rfl rfl rfl (by decide) dL_law_1192 ⟨by show _ ≤ 601024; omega, by show _ ≤ 7293034; omega⟩ (fun r22011 u9 h => ?_)
  obtain ⟨mtint_22004, mcells_22005, mnear_22006, mthere_22007, mways_22008, mmore_22009, mthrown_22010⟩ := u9
  refine x_wsub (ws' := (wLaw cI cJ cZ cA V U land there near worn_22001 trial_22002 fits ways joined mcel mtint_22004 mcells_22005 mnear_22006 mthere_22007 mways_22008 mmore_22009 mthrown_22010 ao out)) [0, 1, 2, 3, 4, 5, 6, 7, 8, 9, 10, 11, 12, 13, 14, 15, 16, 17, 19, 20, 21, 22, 23, 24, 25, 18] rfl rfl ?_
  refine x_icmp_eq (pc := 1195) K dL_law_1195 (tgt := 1310) (by decide) (fun c9 => ?_) (fun c9 => ?_)
  · have h := h.1 c9
    refine x_iinc (v := i + (6 : Int32)) (lv' := [(0, .ref b), (1, .ref (V 0)), (2, .ref (U 0)), (3, .ref ao), (4, .int (i + (6 : Int32)))]) (pc := 1310) K dL_law_1310 (k := 4) rfl rfl (by decide) rfl ?_
    refine x_goto (pc := 1313) K dL_law_1313 (tgt := 23) (by decide) ?_
    exact ih (i + (6 : Int32)) land there near worn_22001 trial_22002 fits ways joined mcel mtint_22004 mcells_22005 mnear_22006 mthere_22007 mways_22008 mmore_22009 mthrown_22010 out _ _ (by omega) (by omega) h
  · have h := h.2 c9
    refine x_iconst (v := 0) (pc := 1198) K dL_law_1198 (by decide) ?_
    exact h.elim
set_option maxHeartbeats 4000000 in
set_option maxRecDepth 100000 in
theorem w_L_case22 {X : xC} {l : Launch} {D : va_G} {cI cJ cZ cA : ClassId} {V U : Nat → Nat} {ao b L : Nat} {xs : Nat → Int32} (hst : l.stackTraces = false) (K : xk X l room_1 D vwCl (xtys cI cJ cZ cA) cL_law RL wsL_law 8) (hE : xEx X RX0 [(61, "the block ends before it begins"), (180, "there is no such row or column"), (183, "there is no such country"), (185, "neither a country nor sea"), (187, "there is no such tint"), (189, "there are not so many tints"), (193, "the country is not there or has no tint")]) (hN : xno X) (hsc : xsc X b L xs) {n : Nat} (rec9 : Int32 → (Nat → Int64) → Int32 → (Nat → Int32) → (Nat → Int32) → (Nat → Int32) → (Nat → Int32) → (Nat → Int64) → (Nat → Nat → Int32) → (Nat → Int32) → (Nat → Int32) → (Nat → Int64) → (Nat → Int32) → Int32 → (Nat → Int64) → (Nat → Int64) → Int32 → (Nat → Int64) → Prop) (ih : ∀ (i : Int32) (land : Nat → Int64) (there : Int32) (near : Nat → Int32) (worn : Nat → Int32) (trial : Nat → Int32) (fits : Nat → Int32) (ways : Nat → Int64) (joined : Nat → Nat → Int32) (mcel : Nat → Int32) (mtint : Nat → Int32) (mcells : Nat → Int64) (mnear : Nat → Int32) (mthere : Int32) (mways : Nat → Int64) (mmore : Nat → Int64) (mthrown : Int32) (out : Nat → Int64) (c9 s9 : Nat), c9 + 4 * n ≤ 601024 → s9 + 24 * n ≤ 7293034 → rec9 i land there near worn trial fits ways joined mcel mtint mcells mnear mthere mways mmore mthrown out → xw X c9 s9 23 [(0, .ref b), (1, .ref (V 0)), (2, .ref (U 0)), (3, .ref ao), (4, .int i)] [] (wLaw cI cJ cZ cA V U land there near worn trial fits ways joined mcel mtint mcells mnear mthere mways mmore mthrown ao out)) (i : Int32) (land : Nat → Int64) (there : Int32) (near : Nat → Int32) (worn : Nat → Int32) (trial : Nat → Int32) (fits : Nat → Int32) (ways : Nat → Int64) (joined : Nat → Nat → Int32) (mcel : Nat → Int32) (mtint : Nat → Int32) (mcells : Nat → Int64) (mnear : Nat → Int32) (mthere : Int32) (mways : Nat → Int64) (mmore : Nat → Int64) (mthrown : Int32) (out : Nat → Int64) (c9 s9 : Nat) (hc : c9 + 4 * (n + 1) ≤ 601024) (hs : s9 + 24 * (n + 1) ≤ 7293034) (h : q_L_case22 L xs rec9 i land there near worn trial fits ways joined mcel mtint mcells mnear mthere mways mmore mthrown out) : xw X c9 s9 1200 [(0, .ref b), (1, .ref (V 0)), (2, .ref (U 0)), (3, .ref ao), (4, .int i)] [] (wLaw cI cJ cZ cA V U land there near worn trial fits ways joined mcel mtint mcells mnear mthere mways mmore mthrown ao out) := by
  unfold q_L_case22 at h
  refine x_aload_n (pc := 1200) K dL_law_1200 1 rfl rfl ?_
  refine x_aload_n (pc := 1201) K dL_law_1201 0 rfl rfl ?_
  refine x_iload (pc := 1202) K dL_law_1202 4 rfl ?_
  refine x_iconst (v := 1) (pc := 1204) K dL_law_1204 (by decide) ?_
  refine x_iadd (pc := 1205) K dL_law_1205 ?_
  have g9 := h.1
  replace h := h.2
  refine x_sld (pc := 1206) K hsc g9 dL_law_1206 ?_
  clear g9
  refine x_aload_n (pc := 1207) K dL_law_1207 3 rfl rfl ?_
  refine x_hcallS (pc := 1208) (n := 3) K hE hN (by decide) (c_L_tintings l D cI cJ cZ cA hst V ao (xs (i + (1 : Int32)).toNatClampNeg) land there near worn trial fits ways joined out _ h) rfl rfl gL_law_L_tintings (hh := [(0, 8, 11, 15)]) rfl (by decide +kernel) ⟨Nat.le_of_ble_eq_true rfl, Nat.le_of_ble_eq_true rfl⟩ rfl (av := [.ref (V 0), .int (xs (i + (1 : Int32)).toNatClampNeg), .ref ao]) rfl (Nat.le_of_ble_eq_true rfl) [0, 1, 2, 3, 4, 5, 6, 7, 8, 9, 10, 11, 12, 13, 14, 15, 16, 17, 25] [18, 19, 20, 21, 22, 23, 24] (wr := (wX1 cI cJ cZ cA U mcel mtint mcells mnear mthere mways mmore mthrown)) rfl rfl rfl rfl (by decide) dL_law_1208 ⟨by show _ ≤ 601024; omega, by show _ ≤ 7293034; omega⟩ (fun k23004 u9 h => ?_)
  obtain ⟨fits_23001, ways_23002, out_23003⟩ := u9
  refine x_wsub (ws' := (wLaw cI cJ cZ cA V U land there near worn trial fits_23001 ways_23002 joined mcel mtint mcells mnear mthere mways mmore mthrown ao out_23003)) [7, 8, 9, 10, 11, 12, 13, 14, 15, 16, 17, 18, 19, 20, 21, 22, 23, 24, 0, 1, 2, 3, 4, 5, 6, 25] rfl rfl ?_
  refine x_istore (lv' := [(0, .ref b), (1, .ref (V 0)), (2, .ref (U 0)), (3, .ref ao), (4, .int i), (5, .int k23004)]) (pc := 1211) K dL_law_1211 (by decide) rfl ?_
  refine x_aload_n (pc := 1213) K dL_law_1213 2 rfl rfl ?_
  refine x_aload_n (pc := 1214) K dL_law_1214 0 rfl rfl ?_
  refine x_iload (pc := 1215) K dL_law_1215 4 rfl ?_
  refine x_iconst (v := 1) (pc := 1217) K dL_law_1217 (by decide) ?_
  refine x_iadd (pc := 1218) K dL_law_1218 ?_
  have g9 := h.1
  replace h := h.2
  refine x_sld (pc := 1219) K hsc g9 dL_law_1219 ?_
  clear g9
  refine x_callVl (pc := 1220) (n := 1) K (c_X1_tintings l D cI cJ cZ cA U (xs (i + (1 : Int32)).toNatClampNeg) mcel mtint mcells mnear mthere mways mmore mthrown _ h) rfl rfl gL_law_X1_tintings rfl (by decide +kernel) ⟨Nat.le_of_ble_eq_true rfl, Nat.le_of_ble_eq_true rfl⟩ rfl (av := [.int (xs (i + (1 : Int32)).toNatClampNeg)]) (b := U 0) (ci := 1) (q0 := 0) rfl rfl rfl (Nat.le_of_ble_eq_true rfl) [18, 19, 20, 21, 22, 23, 24] [0, 1, 2, 3, 4, 5, 6, 7, 8, 9, 10, 11, 12, 13, 14, 15, 16, 17, 25] (wr := (((wX0 cI cJ cZ cA V land there near worn trial fits_23001 ways_23002) ++ wJ cI cA (V 7) (fun k => V (k + 8)) joined) ++ [(ao, .inl (cJ, 1, .inr (.inl out_23003)))])) rfl rfl rfl rfl (by decide) dL_law_1220 ⟨by show _ ≤ 601024; omega, by show _ ≤ 7293034; omega⟩ (fun r23011 u9 h => ?_)
  obtain ⟨mcells_23005, mnear_23006, mthere_23007, mways_23008, mmore_23009, mthrown_23010⟩ := u9
  refine x_wsub (ws' := (wLaw cI cJ cZ cA V U land there near worn trial fits_23001 ways_23002 joined mcel mtint mcells_23005 mnear_23006 mthere_23007 mways_23008 mmore_23009 mthrown_23010 ao out_23003)) [0, 1, 2, 3, 4, 5, 6, 7, 8, 9, 10, 11, 12, 13, 14, 15, 16, 17, 19, 20, 21, 22, 23, 24, 25, 18] rfl rfl ?_
  refine x_lstore (lv' := [(0, .ref b), (1, .ref (V 0)), (2, .ref (U 0)), (3, .ref ao), (4, .int i), (5, .int k23004), (6, .long r23011)]) (pc := 1223) K dL_law_1223 (by decide) rfl ?_
  refine x_aload_n (pc := 1225) K dL_law_1225 2 rfl rfl ?_
  refine x_callVi (pc := 1226) (n := 0) K (c_X1_thrown l D cI cJ cZ cA U mcel mtint mcells_23005 mnear_23006 mthere_23007 mways_23008 mmore_23009 mthrown_23010 _ h) rfl rfl gL_law_X1_thrown rfl (by decide +kernel) ⟨Nat.le_of_ble_eq_true rfl, Nat.le_of_ble_eq_true rfl⟩ rfl (av := []) (b := U 0) (ci := 1) (q0 := 0) rfl rfl rfl (Nat.le_of_ble_eq_true rfl) [18, 19, 20, 21, 22, 23, 24] [0, 1, 2, 3, 4, 5, 6, 7, 8, 9, 10, 11, 12, 13, 14, 15, 16, 17, 25] (wr := (((wX0 cI cJ cZ cA V land there near worn trial fits_23001 ways_23002) ++ wJ cI cA (V 7) (fun k => V (k + 8)) joined) ++ [(ao, .inl (cJ, 1, .inr (.inl out_23003)))])) rfl rfl rfl rfl (by decide) dL_law_1226 ⟨by show _ ≤ 601024; omega, by show _ ≤ 7293034; omega⟩ (fun r23012 _ h => ?_)
  refine x_wsub (ws' := (wLaw cI cJ cZ cA V U land there near worn trial fits_23001 ways_23002 joined mcel mtint mcells_23005 mnear_23006 mthere_23007 mways_23008 mmore_23009 mthrown_23010 ao out_23003)) [0, 1, 2, 3, 4, 5, 6, 7, 8, 9, 10, 11, 12, 13, 14, 15, 16, 17, 19, 20, 21, 22, 23, 24, 25, 18] rfl rfl ?_
  refine x_iload (pc := 1229) K dL_law_1229 5 rfl ?_
  refine x_icmp_eq (pc := 1231) K dL_law_1231 (tgt := 1236) (by decide) (fun c9 => ?_) (fun c9 => ?_)
  · have h := h.1 c9
    refine x_iload (pc := 1236) K dL_law_1236 5 rfl ?_
    refine x_if_ne (pc := 1238) K dL_law_1238 (tgt := 1252) (by decide) (fun c9 => ?_) (fun c9 => ?_)
    · have h := h.1 c9
      refine x_goto (pc := 1252) K dL_law_1252 (tgt := 1310) (by decide) ?_
      refine x_iinc (v := i + (6 : Int32)) (lv' := [(0, .ref b), (1, .ref (V 0)), (2, .ref (U 0)), (3, .ref ao), (4, .int (i + (6 : Int32))), (5, .int k23004), (6, .long r23011)]) (pc := 1310) K dL_law_1310 (k := 4) rfl rfl (by decide) rfl ?_
      refine x_goto (pc := 1313) K dL_law_1313 (tgt := 23) (by decide) ?_
      refine x_keep [true, true, true, true, true, false, false] rfl ?_
      exact ih (i + (6 : Int32)) land there near worn trial fits_23001 ways_23002 joined mcel mtint mcells_23005 mnear_23006 mthere_23007 mways_23008 mmore_23009 mthrown_23010 out_23003 _ _ (by omega) (by omega) h
    · have h := h.2 c9
      refine x_aload_n (pc := 1241) K dL_law_1241 3 rfl rfl ?_
      refine x_iconst (v := 0) (pc := 1242) K dL_law_1242 (by decide) ?_
      refine x_lald (pc := 1243) K 25 1 rfl rfl (by decide) dL_law_1243 ?_
      refine x_lload (pc := 1244) K dL_law_1244 6 rfl ?_
      refine x_lcmp (pc := 1246) K dL_law_1246 ?_
      refine x_if_eq (pc := 1247) K dL_law_1247 (tgt := 1252) (by decide) (fun c9 => ?_) (fun c9 => ?_)
      · have h := h.1 c9
        refine x_goto (pc := 1252) K dL_law_1252 (tgt := 1310) (by decide) ?_
        refine x_iinc (v := i + (6 : Int32)) (lv' := [(0, .ref b), (1, .ref (V 0)), (2, .ref (U 0)), (3, .ref ao), (4, .int (i + (6 : Int32))), (5, .int k23004), (6, .long r23011)]) (pc := 1310) K dL_law_1310 (k := 4) rfl rfl (by decide) rfl ?_
        refine x_goto (pc := 1313) K dL_law_1313 (tgt := 23) (by decide) ?_
        refine x_keep [true, true, true, true, true, false, false] rfl ?_
        exact ih (i + (6 : Int32)) land there near worn trial fits_23001 ways_23002 joined mcel mtint mcells_23005 mnear_23006 mthere_23007 mways_23008 mmore_23009 mthrown_23010 out_23003 _ _ (by omega) (by omega) h
      · have h := h.2 c9
        refine x_iconst (v := 0) (pc := 1250) K dL_law_1250 (by decide) ?_
        exact h.elim
  · have h := h.2 c9
    refine x_iconst (v := 0) (pc := 1234) K dL_law_1234 (by decide) ?_
    exact h.elim
set_option maxHeartbeats 4000000 in
set_option maxRecDepth 100000 in
theorem w_L_case23 {X : xC} {l : Launch} {D : va_G} {cI cJ cZ cA : ClassId} {V U : Nat → Nat} {ao b L : Nat} {xs : Nat → Int32} (hst : l.stackTraces = false) (K : xk X l room_1 D vwCl (xtys cI cJ cZ cA) cL_law RL wsL_law 8) (hE : xEx X RX0 [(61, "the block ends before it begins"), (180, "there is no such row or column"), (183, "there is no such country"), (185, "neither a country nor sea"), (187, "there is no such tint"), (189, "there are not so many tints"), (193, "the country is not there or has no tint")]) (hN : xno X) (hsc : xsc X b L xs) {n : Nat} (rec9 : Int32 → (Nat → Int64) → Int32 → (Nat → Int32) → (Nat → Int32) → (Nat → Int32) → (Nat → Int32) → (Nat → Int64) → (Nat → Nat → Int32) → (Nat → Int32) → (Nat → Int32) → (Nat → Int64) → (Nat → Int32) → Int32 → (Nat → Int64) → (Nat → Int64) → Int32 → (Nat → Int64) → Prop) (ih : ∀ (i : Int32) (land : Nat → Int64) (there : Int32) (near : Nat → Int32) (worn : Nat → Int32) (trial : Nat → Int32) (fits : Nat → Int32) (ways : Nat → Int64) (joined : Nat → Nat → Int32) (mcel : Nat → Int32) (mtint : Nat → Int32) (mcells : Nat → Int64) (mnear : Nat → Int32) (mthere : Int32) (mways : Nat → Int64) (mmore : Nat → Int64) (mthrown : Int32) (out : Nat → Int64) (c9 s9 : Nat), c9 + 4 * n ≤ 601024 → s9 + 24 * n ≤ 7293034 → rec9 i land there near worn trial fits ways joined mcel mtint mcells mnear mthere mways mmore mthrown out → xw X c9 s9 23 [(0, .ref b), (1, .ref (V 0)), (2, .ref (U 0)), (3, .ref ao), (4, .int i)] [] (wLaw cI cJ cZ cA V U land there near worn trial fits ways joined mcel mtint mcells mnear mthere mways mmore mthrown ao out)) (i : Int32) (land : Nat → Int64) (there : Int32) (near : Nat → Int32) (worn : Nat → Int32) (trial : Nat → Int32) (fits : Nat → Int32) (ways : Nat → Int64) (joined : Nat → Nat → Int32) (mcel : Nat → Int32) (mtint : Nat → Int32) (mcells : Nat → Int64) (mnear : Nat → Int32) (mthere : Int32) (mways : Nat → Int64) (mmore : Nat → Int64) (mthrown : Int32) (out : Nat → Int64) (c9 s9 : Nat) (hc : c9 + 4 * (n + 1) ≤ 601024) (hs : s9 + 24 * (n + 1) ≤ 7293034) (h : q_L_case23 L xs rec9 i land there near worn trial fits ways joined mcel mtint mcells mnear mthere mways mmore mthrown out) : xw X c9 s9 1255 [(0, .ref b), (1, .ref (V 0)), (2, .ref (U 0)), (3, .ref ao), (4, .int i)] [] (wLaw cI cJ cZ cA V U land there near worn trial fits ways joined mcel mtint mcells mnear mthere mways mmore mthrown ao out) := by
  unfold q_L_case23 at h
  refine x_aload_n (pc := 1255) K dL_law_1255 1 rfl rfl ?_
  refine x_aload_n (pc := 1256) K dL_law_1256 0 rfl rfl ?_
  refine x_iload (pc := 1257) K dL_law_1257 4 rfl ?_
  refine x_iconst (v := 1) (pc := 1259) K dL_law_1259 (by decide) ?_
  refine x_iadd (pc := 1260) K dL_law_1260 ?_
  have g9 := h.1
  replace h := h.2
  refine x_sld (pc := 1261) K hsc g9 dL_law_1261 ?_
  clear g9
  refine x_aload_n (pc := 1262) K dL_law_1262 3 rfl rfl ?_
  refine x_hcallS (pc := 1263) (n := 3) K hE hN (by decide) (c_L_tintingsByPairs l D cI cJ cZ cA hst V ao (xs (i + (1 : Int32)).toNatClampNeg) land there near worn trial fits ways joined out _ h) rfl rfl gL_law_L_tintingsByPairs (hh := [(0, 8, 11, 15)]) rfl (by decide +kernel) ⟨Nat.le_of_ble_eq_true rfl, Nat.le_of_ble_eq_true rfl⟩ rfl (av := [.ref (V 0), .int (xs (i + (1 : Int32)).toNatClampNeg), .ref ao]) rfl (Nat.le_of_ble_eq_true rfl) [0, 1, 2, 3, 4, 5, 6, 7, 8, 9, 10, 11, 12, 13, 14, 15, 16, 17, 25] [18, 19, 20, 21, 22, 23, 24] (wr := (wX1 cI cJ cZ cA U mcel mtint mcells mnear mthere mways mmore mthrown)) rfl rfl rfl rfl (by decide) dL_law_1263 ⟨by show _ ≤ 601024; omega, by show _ ≤ 7293034; omega⟩ (fun k24003 u9 h => ?_)
  obtain ⟨joined_24001, out_24002⟩ := u9
  refine x_wsub (ws' := (wLaw cI cJ cZ cA V U land there near worn trial fits ways joined_24001 mcel mtint mcells mnear mthere mways mmore mthrown ao out_24002)) [7, 8, 9, 10, 11, 12, 13, 14, 15, 16, 17, 18, 19, 20, 21, 22, 23, 24, 0, 1, 2, 3, 4, 5, 6, 25] rfl rfl ?_
  refine x_istore (lv' := [(0, .ref b), (1, .ref (V 0)), (2, .ref (U 0)), (3, .ref ao), (4, .int i), (5, .int k24003)]) (pc := 1266) K dL_law_1266 (by decide) rfl ?_
  refine x_aload_n (pc := 1268) K dL_law_1268 2 rfl rfl ?_
  refine x_aload_n (pc := 1269) K dL_law_1269 0 rfl rfl ?_
  refine x_iload (pc := 1270) K dL_law_1270 4 rfl ?_
  refine x_iconst (v := 1) (pc := 1272) K dL_law_1272 (by decide) ?_
  refine x_iadd (pc := 1273) K dL_law_1273 ?_
  have g9 := h.1
  replace h := h.2
  refine x_sld (pc := 1274) K hsc g9 dL_law_1274 ?_
  clear g9
  refine x_callVl (pc := 1275) (n := 1) K (c_X1_tintingsByPairs l D cI cJ cZ cA U (xs (i + (1 : Int32)).toNatClampNeg) mcel mtint mcells mnear mthere mways mmore mthrown _ h) rfl rfl gL_law_X1_tintingsByPairs rfl (by decide +kernel) ⟨Nat.le_of_ble_eq_true rfl, Nat.le_of_ble_eq_true rfl⟩ rfl (av := [.int (xs (i + (1 : Int32)).toNatClampNeg)]) (b := U 0) (ci := 1) (q0 := 0) rfl rfl rfl (Nat.le_of_ble_eq_true rfl) [18, 19, 20, 21, 22, 23, 24] [0, 1, 2, 3, 4, 5, 6, 7, 8, 9, 10, 11, 12, 13, 14, 15, 16, 17, 25] (wr := (((wX0 cI cJ cZ cA V land there near worn trial fits ways) ++ wJ cI cA (V 7) (fun k => V (k + 8)) joined_24001) ++ [(ao, .inl (cJ, 1, .inr (.inl out_24002)))])) rfl rfl rfl rfl (by decide) dL_law_1275 ⟨by show _ ≤ 601024; omega, by show _ ≤ 7293034; omega⟩ (fun r24010 u9 h => ?_)
  obtain ⟨mcells_24004, mnear_24005, mthere_24006, mways_24007, mmore_24008, mthrown_24009⟩ := u9
  refine x_wsub (ws' := (wLaw cI cJ cZ cA V U land there near worn trial fits ways joined_24001 mcel mtint mcells_24004 mnear_24005 mthere_24006 mways_24007 mmore_24008 mthrown_24009 ao out_24002)) [0, 1, 2, 3, 4, 5, 6, 7, 8, 9, 10, 11, 12, 13, 14, 15, 16, 17, 19, 20, 21, 22, 23, 24, 25, 18] rfl rfl ?_
  refine x_lstore (lv' := [(0, .ref b), (1, .ref (V 0)), (2, .ref (U 0)), (3, .ref ao), (4, .int i), (5, .int k24003), (6, .long r24010)]) (pc := 1278) K dL_law_1278 (by decide) rfl ?_
  refine x_aload_n (pc := 1280) K dL_law_1280 2 rfl rfl ?_
  refine x_callVi (pc := 1281) (n := 0) K (c_X1_thrown l D cI cJ cZ cA U mcel mtint mcells_24004 mnear_24005 mthere_24006 mways_24007 mmore_24008 mthrown_24009 _ h) rfl rfl gL_law_X1_thrown rfl (by decide +kernel) ⟨Nat.le_of_ble_eq_true rfl, Nat.le_of_ble_eq_true rfl⟩ rfl (av := []) (b := U 0) (ci := 1) (q0 := 0) rfl rfl rfl (Nat.le_of_ble_eq_true rfl) [18, 19, 20, 21, 22, 23, 24] [0, 1, 2, 3, 4, 5, 6, 7, 8, 9, 10, 11, 12, 13, 14, 15, 16, 17, 25] (wr := (((wX0 cI cJ cZ cA V land there near worn trial fits ways) ++ wJ cI cA (V 7) (fun k => V (k + 8)) joined_24001) ++ [(ao, .inl (cJ, 1, .inr (.inl out_24002)))])) rfl rfl rfl rfl (by decide) dL_law_1281 ⟨by show _ ≤ 601024; omega, by show _ ≤ 7293034; omega⟩ (fun r24011 _ h => ?_)
  refine x_wsub (ws' := (wLaw cI cJ cZ cA V U land there near worn trial fits ways joined_24001 mcel mtint mcells_24004 mnear_24005 mthere_24006 mways_24007 mmore_24008 mthrown_24009 ao out_24002)) [0, 1, 2, 3, 4, 5, 6, 7, 8, 9, 10, 11, 12, 13, 14, 15, 16, 17, 19, 20, 21, 22, 23, 24, 25, 18] rfl rfl ?_
  refine x_iload (pc := 1284) K dL_law_1284 5 rfl ?_
  refine x_icmp_eq (pc := 1286) K dL_law_1286 (tgt := 1291) (by decide) (fun c9 => ?_) (fun c9 => ?_)
  · have h := h.1 c9
    refine x_iload (pc := 1291) K dL_law_1291 5 rfl ?_
    refine x_if_ne (pc := 1293) K dL_law_1293 (tgt := 1307) (by decide) (fun c9 => ?_) (fun c9 => ?_)
    · have h := h.1 c9
      refine x_goto (pc := 1307) K dL_law_1307 (tgt := 1310) (by decide) ?_
      refine x_iinc (v := i + (6 : Int32)) (lv' := [(0, .ref b), (1, .ref (V 0)), (2, .ref (U 0)), (3, .ref ao), (4, .int (i + (6 : Int32))), (5, .int k24003), (6, .long r24010)]) (pc := 1310) K dL_law_1310 (k := 4) rfl rfl (by decide) rfl ?_
      refine x_goto (pc := 1313) K dL_law_1313 (tgt := 23) (by decide) ?_
      refine x_keep [true, true, true, true, true, false, false] rfl ?_
      exact ih (i + (6 : Int32)) land there near worn trial fits ways joined_24001 mcel mtint mcells_24004 mnear_24005 mthere_24006 mways_24007 mmore_24008 mthrown_24009 out_24002 _ _ (by omega) (by omega) h
    · have h := h.2 c9
      refine x_aload_n (pc := 1296) K dL_law_1296 3 rfl rfl ?_
      refine x_iconst (v := 0) (pc := 1297) K dL_law_1297 (by decide) ?_
      refine x_lald (pc := 1298) K 25 1 rfl rfl (by decide) dL_law_1298 ?_
      refine x_lload (pc := 1299) K dL_law_1299 6 rfl ?_
      refine x_lcmp (pc := 1301) K dL_law_1301 ?_
      refine x_if_eq (pc := 1302) K dL_law_1302 (tgt := 1307) (by decide) (fun c9 => ?_) (fun c9 => ?_)
      · have h := h.1 c9
        refine x_goto (pc := 1307) K dL_law_1307 (tgt := 1310) (by decide) ?_
        refine x_iinc (v := i + (6 : Int32)) (lv' := [(0, .ref b), (1, .ref (V 0)), (2, .ref (U 0)), (3, .ref ao), (4, .int (i + (6 : Int32))), (5, .int k24003), (6, .long r24010)]) (pc := 1310) K dL_law_1310 (k := 4) rfl rfl (by decide) rfl ?_
        refine x_goto (pc := 1313) K dL_law_1313 (tgt := 23) (by decide) ?_
        refine x_keep [true, true, true, true, true, false, false] rfl ?_
        exact ih (i + (6 : Int32)) land there near worn trial fits ways joined_24001 mcel mtint mcells_24004 mnear_24005 mthere_24006 mways_24007 mmore_24008 mthrown_24009 out_24002 _ _ (by omega) (by omega) h
      · have h := h.2 c9
        refine x_iconst (v := 0) (pc := 1305) K dL_law_1305 (by decide) ?_
        exact h.elim
  · have h := h.2 c9
    refine x_iconst (v := 0) (pc := 1289) K dL_law_1289 (by decide) ?_
    exact h.elim
set_option maxHeartbeats 4000000 in
set_option maxRecDepth 100000 in
theorem w_L_case24 {X : xC} {l : Launch} {D : va_G} {cI cJ cZ cA : ClassId} {V U : Nat → Nat} {ao b L : Nat} {xs : Nat → Int32} (hst : l.stackTraces = false) (K : xk X l room_1 D vwCl (xtys cI cJ cZ cA) cL_law RL wsL_law 8) (hE : xEx X RX0 [(61, "the block ends before it begins"), (180, "there is no such row or column"), (183, "there is no such country"), (185, "neither a country nor sea"), (187, "there is no such tint"), (189, "there are not so many tints"), (193, "the country is not there or has no tint")]) (hN : xno X) (hsc : xsc X b L xs) {n : Nat} (rec9 : Int32 → (Nat → Int64) → Int32 → (Nat → Int32) → (Nat → Int32) → (Nat → Int32) → (Nat → Int32) → (Nat → Int64) → (Nat → Nat → Int32) → (Nat → Int32) → (Nat → Int32) → (Nat → Int64) → (Nat → Int32) → Int32 → (Nat → Int64) → (Nat → Int64) → Int32 → (Nat → Int64) → Prop) (ih : ∀ (i : Int32) (land : Nat → Int64) (there : Int32) (near : Nat → Int32) (worn : Nat → Int32) (trial : Nat → Int32) (fits : Nat → Int32) (ways : Nat → Int64) (joined : Nat → Nat → Int32) (mcel : Nat → Int32) (mtint : Nat → Int32) (mcells : Nat → Int64) (mnear : Nat → Int32) (mthere : Int32) (mways : Nat → Int64) (mmore : Nat → Int64) (mthrown : Int32) (out : Nat → Int64) (c9 s9 : Nat), c9 + 4 * n ≤ 601024 → s9 + 24 * n ≤ 7293034 → rec9 i land there near worn trial fits ways joined mcel mtint mcells mnear mthere mways mmore mthrown out → xw X c9 s9 23 [(0, .ref b), (1, .ref (V 0)), (2, .ref (U 0)), (3, .ref ao), (4, .int i)] [] (wLaw cI cJ cZ cA V U land there near worn trial fits ways joined mcel mtint mcells mnear mthere mways mmore mthrown ao out)) (i : Int32) (land : Nat → Int64) (there : Int32) (near : Nat → Int32) (worn : Nat → Int32) (trial : Nat → Int32) (fits : Nat → Int32) (ways : Nat → Int64) (joined : Nat → Nat → Int32) (mcel : Nat → Int32) (mtint : Nat → Int32) (mcells : Nat → Int64) (mnear : Nat → Int32) (mthere : Int32) (mways : Nat → Int64) (mmore : Nat → Int64) (mthrown : Int32) (out : Nat → Int64) (c9 s9 : Nat) (hc : c9 + 4 * (n + 1) ≤ 601024) (hs : s9 + 24 * (n + 1) ≤ 7293034) (h : q_L_case24 L xs rec9 i land there near worn trial fits ways joined mcel mtint mcells mnear mthere mways mmore mthrown out) : xw X c9 s9 1310 [(0, .ref b), (1, .ref (V 0)), (2, .ref (U 0)), (3, .ref ao), (4, .int i)] [] (wLaw cI cJ cZ cA V U land there near worn trial fits ways joined mcel mtint mcells mnear mthere mways mmore mthrown ao out) := by
  unfold q_L_case24 at h
  refine x_iinc (v := i + (6 : Int32)) (lv' := [(0, .ref b), (1, .ref (V 0)), (2, .ref (U 0)), (3, .ref ao), (4, .int (i + (6 : Int32)))]) (pc := 1310) K dL_law_1310 (k := 4) rfl rfl (by decide) rfl ?_
  refine x_goto (pc := 1313) K dL_law_1313 (tgt := 23) (by decide) ?_
  exact ih (i + (6 : Int32)) land there near worn trial fits ways joined mcel mtint mcells mnear mthere mways mmore mthrown out _ _ (by omega) (by omega) h
