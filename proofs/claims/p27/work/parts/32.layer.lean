/-! contracts of the law's methods and calls of them -/
def xNo : List (String × String) := [("java/lang/IllegalArgumentException", "java/lang/IndexOutOfBoundsException"), ("java/lang/IllegalStateException", "java/lang/IndexOutOfBoundsException"), ("java/lang/IllegalStateException", "java/lang/IllegalArgumentException")]
def xPreH (D : va_G) (cl : List vw_C) (tys : List (ClassId × FieldType)) (ws : va_W) (sz : Nat) (av : List Value) (own : String) (L : List (Nat × String)) : Array Value → State → Prop := va_Pc av (fun U => U.heap.size = sz ∧ va_P D cl ws U.heap ∧ va_K D cl tys U ∧ va_D (fun _ => True) ws ∧ xE own L (va_A ws sz) U ∧ ∀ q ∈ xNo, va_Nc q.1 q.2 U)
theorem xPreH_blind {D : va_G} {cl : List vw_C} {tys : List (ClassId × FieldType)} {ws : va_W} {sz : Nat} {av : List Value} {own : String} {L : List (Nat × String)} : FrameBlind (xPreH D cl tys ws sz av own L) := fun a U g mk q => by
  obtain ⟨q0, q1, qP, qK, qD, ⟨e1, e2, e3, e4⟩, e5⟩ := q
  refine ⟨q0, q1, qP, va_K.moved (u := U) (U := U.calling g mk a) (Vm.Alike.refl U.vm) qK, qD, ⟨vx_Zq.moved (u := U) (U := U.calling g mk a) (Vm.Alike.refl U.vm) e1, vx_Zq.moved (u := U) (U := U.calling g mk a) (Vm.Alike.refl U.vm) e2, fun z hz => ?_, xBad_same (u := U) (U := U.calling g mk a) rfl e4⟩, fun q hq => va_Nc.moved (u := U) (U := U.calling g mk a) (Vm.Alike.refl U.vm) (e5 q hq)⟩
  obtain ⟨sa, h⟩ := e3 z hz
  exact ⟨sa, vk_R.same rfl h⟩
def xHi (l : Launch) (y : MethodName) (w : List Cond) (rm : Room) (D : va_G) (cl : List vw_C) (tys : List (ClassId × FieldType)) (ws : va_W) (av : List Value) (own : String) (L : List (Nat × String)) {σ : Type} (wf : σ → va_W) (P : Int32 → σ → Prop) (mc ms : Nat) : Prop := ∀ sz : Nat, Met l y w rm (xPreH D cl tys ws sz av own L) (va_Qi P (fun u t => xB D cl tys (va_A ws sz) (wf u) t) (va_A ws sz)) mc ms (va_A ws sz)
def xHl (l : Launch) (y : MethodName) (w : List Cond) (rm : Room) (D : va_G) (cl : List vw_C) (tys : List (ClassId × FieldType)) (ws : va_W) (av : List Value) (own : String) (L : List (Nat × String)) {σ : Type} (wf : σ → va_W) (P : Int64 → σ → Prop) (mc ms : Nat) : Prop := ∀ sz : Nat, Met l y w rm (xPreH D cl tys ws sz av own L) (va_Ql P (fun u t => xB D cl tys (va_A ws sz) (wf u) t) (va_A ws sz)) mc ms (va_A ws sz)
def xHz (l : Launch) (y : MethodName) (w : List Cond) (rm : Room) (D : va_G) (cl : List vw_C) (tys : List (ClassId × FieldType)) (ws : va_W) (av : List Value) (own : String) (L : List (Nat × String)) {σ : Type} (wf : σ → va_W) (P : Int32 → σ → Prop) (mc ms : Nat) : Prop := ∀ sz : Nat, Met l y w rm (xPreH D cl tys ws sz av own L) (va_Qi P (fun u t => xB D cl tys (va_A ws sz) (wf u) t) (va_A ws sz)) mc ms (va_A ws sz)
/-- the table of handlers, and which exceptions are no such others -/
def xtab : xC → List (Nat × Nat × Nat × Nat) → Prop
  | ((_, _, _, _, s, _, _, _, _, c), _), hh => c.exceptionTable.toList = tableOf hh ∧ ∀ q ∈ xNo, va_Nc q.1 q.2 s
theorem Met.ofWH {l : Launch} {y : MethodName} {ws ws' : List Cond} {rm : Room} {Pc : Array Value → State → Prop} {Qc : Array Value → State → Outcome → State → Prop} {mc ms : Nat} {free : Addr → Prop} {cc : ByteArray} {maxL : Nat} {ret : Option FieldType} {hh : List (Nat × Nat × Nat × Nat)}
    (hy : plainName y.cls = true) (hw : ws = Cond.codeWith y cc maxL ret hh :: ws')
    (body : ∀ p e s m args below meth c s₁, BodyLoose p l y (headSpec ws rm) cc maxL ret e s m args below meth c s₁ → c.maxLocals = maxL → Pc args s →
      W p l e (headSpec ws rm).room s m args below meth c s.heap [] 0 0 (MQ below Qc args s mc ms free) (entryFrame m args maxL)) : Met l y ws rm Pc Qc mc ms free := by
  refine MetFree.of_bodyS (code := cc) (maxLocals := maxL) (ret := ret) hy ?_ ?_
  · intro args s m h hn
    obtain ⟨m9, meth, c, hn9, h1, h2, h3, h4, -, h5, h6, -⟩ := Cond.codeWith_spec (atoms_spec (ws := ws) h _ (by rw [hw]; exact List.mem_cons_self))
    cases hn.symm.trans hn9
    exact ⟨meth, c, h1, h2, h3, h4, h5, h6⟩
  · intro p e s m args below meth c s₁ B hml hP _
    have hh0 : s₁.heap = s.heap := by rw [B.state]; rfl
    obtain ⟨t, a1, o, b1, b2, b3⟩ := body p e s m args below meth c s₁ B hml hP s₁ hh0 (Stand.of_body B)
    exact ⟨t, o, a1, b1, b2, ⟨b3.1, b3.2⟩⟩
theorem xHi_of {l : Launch} {y : MethodName} {w w' : List Cond} {rm : Room} {D : va_G} {cl : List vw_C} {tys : List (ClassId × FieldType)} {ws : va_W} {av : List Value} {own : String} {L : List (Nat × String)} {σ : Type} {wf : σ → va_W} {P : Int32 → σ → Prop} {mc ms : Nat} {cc : ByteArray} {maxL : Nat} {hh : List (Nat × Nat × Nat × Nat)}
    (hy : plainName y.cls = true) (hw : w = Cond.codeWith y cc maxL (some .int) hh :: w') (hav : (lg_sl av).length ≤ maxL)
    (body : ∀ X : xC, xk X l rm D cl tys cc y.cls w maxL → xEx X own L → xtab X hh → xei X cc mc ms wf P → xw X 0 0 0 (lv_args 0 av) [] ws) : xHi l y w rm D cl tys ws av own L wf P mc ms := by
  intro sz
  refine Met.ofWH (cc := cc) (maxL := maxL) (ret := some .int) hy hw ?_
  intro p e s m args below meth c s₁ B hml hv
  obtain ⟨rfl, hsz, hP, hK, hD0, hE, hN⟩ := hv
  have hx := B.exec
  have hb := B.bytes
  have hr := B.returns
  have hts := atoms_spec (ws := w) B.pre
  have hown : s.vm.findClass y.cls = some m.cls := findClass_of_methodNamed B.named
  have hlocks := B.notSynchronized
  subst hsz
  have hD := hD0.self (sz := s.heap.size)
  have hS : va_S (va_A ws s.heap.size) s.heap s.heap [] := va_S.rf
  have hl := lv_entry av (n := maxL) hav
  rw [lg_entry_eq]
  exact body ((p, l, e, rm, s, m, av.toArray, below, meth, c), (D, cl, va_A ws s.heap.size, tys, maxL, MQ below (va_Qi P (fun u t => xB D cl tys (va_A ws s.heap.size) (wf u) t) (va_A ws s.heap.size)) av.toArray s mc ms (va_A ws s.heap.size)))
    ⟨rfl, rfl, rfl, rfl, rfl, hx, hb, hml, rfl, hown, hts, hK, fun q h => Or.inr h, hlocks⟩ hE ⟨vx_table (x := y) B (hts _ (by rw [hw]; exact List.mem_cons_self)), hN⟩
    (by
      intro r u pc lv hp hd H locs ls hP hD hS hl
      exact W.iret (v := r) hx hb hr (fun t ht hW => ⟨⟨r, u, rfl, hp, by rw [ht]; exact hP, va_K.moved hW.alike hK, hD⟩, hS.F ht⟩) hS.2.2 hd)
    s.heap [] _ hP hD hS hl
theorem xHl_of {l : Launch} {y : MethodName} {w w' : List Cond} {rm : Room} {D : va_G} {cl : List vw_C} {tys : List (ClassId × FieldType)} {ws : va_W} {av : List Value} {own : String} {L : List (Nat × String)} {σ : Type} {wf : σ → va_W} {P : Int64 → σ → Prop} {mc ms : Nat} {cc : ByteArray} {maxL : Nat} {hh : List (Nat × Nat × Nat × Nat)}
    (hy : plainName y.cls = true) (hw : w = Cond.codeWith y cc maxL (some .long) hh :: w') (hav : (lg_sl av).length ≤ maxL)
    (body : ∀ X : xC, xk X l rm D cl tys cc y.cls w maxL → xEx X own L → xtab X hh → xel X cc mc ms wf P → xw X 0 0 0 (lv_args 0 av) [] ws) : xHl l y w rm D cl tys ws av own L wf P mc ms := by
  intro sz
  refine Met.ofWH (cc := cc) (maxL := maxL) (ret := some .long) hy hw ?_
  intro p e s m args below meth c s₁ B hml hv
  obtain ⟨rfl, hsz, hP, hK, hD0, hE, hN⟩ := hv
  have hx := B.exec
  have hb := B.bytes
  have hr := B.returns
  have hts := atoms_spec (ws := w) B.pre
  have hown : s.vm.findClass y.cls = some m.cls := findClass_of_methodNamed B.named
  have hlocks := B.notSynchronized
  subst hsz
  have hD := hD0.self (sz := s.heap.size)
  have hS : va_S (va_A ws s.heap.size) s.heap s.heap [] := va_S.rf
  have hl := lv_entry av (n := maxL) hav
  rw [lg_entry_eq]
  exact body ((p, l, e, rm, s, m, av.toArray, below, meth, c), (D, cl, va_A ws s.heap.size, tys, maxL, MQ below (va_Ql P (fun u t => xB D cl tys (va_A ws s.heap.size) (wf u) t) (va_A ws s.heap.size)) av.toArray s mc ms (va_A ws s.heap.size)))
    ⟨rfl, rfl, rfl, rfl, rfl, hx, hb, hml, rfl, hown, hts, hK, fun q h => Or.inr h, hlocks⟩ hE ⟨vx_table (x := y) B (hts _ (by rw [hw]; exact List.mem_cons_self)), hN⟩
    (by
      intro r u pc lv hp hd H locs ls hP hD hS hl
      exact W.lret (v := r) hx hb hr (fun t ht hW => ⟨⟨r, u, rfl, hp, by rw [ht]; exact hP, va_K.moved hW.alike hK, hD⟩, hS.F ht⟩) hS.2.2 hd)
    s.heap [] _ hP hD hS hl
theorem x_catch {X : xC} {l : Launch} {R : Room} {D : va_G} {cl : List vw_C} {tys : List (ClassId × FieldType)} {cc : ByteArray} {own : String} {Ts : List Cond} {nL cells slots pc : Nat} {lv : List (Nat × Value)} {st : List Value} {ws : va_W} {ow2 : String} {L : List (Nat × String)} {hh : List (Nat × Nat × Nat × Nat)} (K : xk X l R D cl tys cc own Ts nL) (hE : xEx X ow2 L) (ht : xtab X hh) {E : String} (pre : List (Nat × Nat × Nat × Nat)) (x : Nat × Nat × Nat × Nat) (suf : List (Nat × Nat × Nat × Nat)) (hsplit : hh = pre ++ x :: suf) (hpass : ∀ z ∈ pre, z.2.2.2 ≠ 0 ∧ ∃ nm : String, Cond.classLink own z.2.2.2 nm ∈ Ts ∧ (E, nm) ∈ xNo) (hx : covers ⟨x.1, x.2.1, x.2.2.1, x.2.2.2⟩ pc = true) (h0 : x.2.2.2 ≠ 0) (hlink : Cond.classLink own x.2.2.2 E ∈ Ts) (hbad : Cond.castable E E ∈ xBad) (kk : ∀ q : Nat, xw X cells slots x.2.2.1 lv [.ref q] ws) : xwx X cells slots pc lv st ws E := by
  obtain ⟨⟨p, l, e, R, s, m, args, below, meth, c⟩, ⟨D, cl, A, tys, nX, Q⟩⟩ := X
  obtain ⟨rfl, rfl, rfl, rfl, rfl, hx9, hb, hml, rfl, hown, hts, hK, hA, hlk⟩ := K
  subst hsplit
  intro H locs ls ce q hP hD hS hl hce hcv hcc
  refine vx_catch hown (tableOf pre) ⟨x.1, x.2.1, x.2.2.1, x.2.2.2⟩ (tableOf suf) (by rw [ht.1]; simp [tableOf]) (fun z hz => ?_) hx h0 (hts _ hlink) (va_tabs rfl rfl (hE.2.2.2 _ hbad)) hce hcv hcc (kk q H locs ls hP hD hS hl)
  obtain ⟨z0, hz0, rfl⟩ := List.mem_map.mp hz
  obtain ⟨h1, nm, h2, h3⟩ := hpass z0 hz0
  exact Or.inr ⟨h1, nm, hts _ h2, ht.2 _ h3⟩
def xsc : xC → Nat → Nat → (Nat → Int32) → Prop
  | ((_, _, _, _, s, _, _, _, _, _), (_, _, A, _, _, _)), b, L, xs => va_X b L xs s s.heap ∧ b < s.heap.size ∧ ¬ A b
def xno : xC → Prop
  | ((_, _, _, _, s, _, _, _, _, _), _) => ∀ q ∈ xNo, va_Nc q.1 q.2 s
def xend (X : xC) : Prop := ∀ (pc : Nat) (lv : List (Nat × Value)) (ws : va_W), decode cL_law pc = .ok (.ireturn, 1) → xw X 600086 7301442 pc lv [.int 1] ws
theorem xHz_of {l : Launch} {y : MethodName} {w w' : List Cond} {rm : Room} {D : va_G} {cl : List vw_C} {tys : List (ClassId × FieldType)} {ws : va_W} {av : List Value} {own : String} {L : List (Nat × String)} {σ : Type} {wf : σ → va_W} {P : Int32 → σ → Prop} {mc ms : Nat} {cc : ByteArray} {maxL : Nat}
    (hy : plainName y.cls = true) (hw : w = Cond.code y cc maxL (some .boolean) :: w') (hav : (lg_sl av).length ≤ maxL)
    (body : ∀ X : xC, xk X l rm D cl tys cc y.cls w maxL → xEx X own L → xno X → xez X cc mc ms wf P → xw X 0 0 0 (lv_args 0 av) [] ws) : xHz l y w rm D cl tys ws av own L wf P mc ms := by
  intro sz
  refine Met.ofW (cc := cc) (maxL := maxL) (ret := some .boolean) hy hw ?_
  intro p e s m args below meth c s₁ B hml hv
  obtain ⟨rfl, hsz, hP, hK, hD0, hE, hN⟩ := hv
  have hx := B.exec
  have hb := B.bytes
  have hr := B.returns
  have hts := atoms_spec (ws := w) B.pre
  have hown : s.vm.findClass y.cls = some m.cls := findClass_of_methodNamed B.named
  have hlocks := B.notSynchronized
  subst hsz
  have hD := hD0.self (sz := s.heap.size)
  have hS : va_S (va_A ws s.heap.size) s.heap s.heap [] := va_S.rf
  have hl := lv_entry av (n := maxL) hav
  rw [lg_entry_eq]
  exact body ((p, l, e, rm, s, m, av.toArray, below, meth, c), (D, cl, va_A ws s.heap.size, tys, maxL, MQ below (va_Qi P (fun u t => xB D cl tys (va_A ws s.heap.size) (wf u) t) (va_A ws s.heap.size)) av.toArray s mc ms (va_A ws s.heap.size)))
    ⟨rfl, rfl, rfl, rfl, rfl, hx, hb, hml, rfl, hown, hts, hK, fun q h => Or.inr h, hlocks⟩ hE hN
    (by
      intro r u pc lv hp hn hd H locs ls hP hD hS hl
      exact W.zret (v := r) hx hb hr hn (fun t ht hW => ⟨⟨r, u, rfl, hp, by rw [ht]; exact hP, va_K.moved hW.alike hK, hD⟩, hS.F ht⟩) hS.2.2 hd)
    s.heap [] _ hP hD hS hl
section XL
variable {X : xC} {l0 : Launch} {R0 : Room} {D0 : va_G} {cl0 : List vw_C} {tys0 : List (ClassId × FieldType)} {cc : ByteArray} {own : String} {Ts : List Cond} {nL cells slots pc : Nat} {lv lv' : List (Nat × Value)} {st : List Value} {ws : va_W}
theorem x_slen (K : xk X l0 R0 D0 cl0 tys0 cc own Ts nL) {b L : Nat} {xs : Nat → Int32} (hsc : xsc X b L xs) (d : decode cc pc = .ok (.arraylength, 1)) (kk : xw X cells slots (pc + 1) lv (.int (nI L) :: st) ws) : xw X cells slots pc lv (.ref b :: st) ws := by
  obtain ⟨⟨p, l, e, R, s, m, args, below, meth, c⟩, ⟨D, cl, A, tys, nX, Q⟩⟩ := X
  obtain ⟨rfl, rfl, rfl, rfl, rfl, hx, hb, hml, rfl, hown, hts, hK, hA, hlk⟩ := K
  intro H locs ls hP hD hS hl
  exact va_slen hx hb hsc.1 hsc.2.1 hsc.2.2 hS d (kk H locs ls hP hD hS hl)
theorem x_sld (K : xk X l0 R0 D0 cl0 tys0 cc own Ts nL) {b L : Nat} {xs : Nat → Int32} (hsc : xsc X b L xs) {i : Int32} (hin : xin i L = true) (d : decode cc pc = .ok (.iaload, 1)) (kk : xw X cells slots (pc + 1) lv (.int (xs i.toNatClampNeg) :: st) ws) : xw X cells slots pc lv (.int i :: .ref b :: st) ws := by
  obtain ⟨⟨p, l, e, R, s, m, args, below, meth, c⟩, ⟨D, cl, A, tys, nX, Q⟩⟩ := X
  obtain ⟨rfl, rfl, rfl, rfl, rfl, hx, hb, hml, rfl, hown, hts, hK, hA, hlk⟩ := K
  intro H locs ls hP hD hS hl
  exact va_sld hx hb hsc.1 hsc.2.1 hsc.2.2 hS (xin_of hin) d (kk H locs ls hP hD hS hl)
theorem x_hcallSi (K : xk X l0 R0 D0 cl0 tys0 cc own Ts nL) {y : MethodName} {w w' : List Cond} {rm : Room} {bytes : ByteArray} {maxL n idx : Nat} {av st0 : List Value} {wc : va_W} {σ : Type} {wf : σ → va_W} {P : Int32 → σ → Prop} {ow2 : String} {L L2 : List (Nat × String)} {mc ms : Nat} (hE : xEx X ow2 L2) (hN : xno X) (hL : ∀ q ∈ L, q ∈ L2) (hM : xHi l0 y w rm D0 cl0 tys0 wc av ow2 L wf P mc ms) (hrc : rm.cells = mc) (hrs : rm.slots = ms) (hg : GoodIn Ts (va_wsS own idx y w)) {hh : List (Nat × Nat × Nat × Nat)} (hw : w = Cond.codeWith y bytes maxL (some .int) hh :: w') (hd : y.cls ≠ "java/lang/invoke/MethodHandle" ∧ y.cls ≠ "java/lang/invoke/VarHandle" ∧ (parseMethodDescriptor y.desc).map (fun d => d.parameters.length) = some n) (hroom : rm.frames + 1 ≤ R0.frames ∧ 8 + (maxL + 11) + rm.locals ≤ R0.locals) (hn : av.length = n) (hst : st0 = av.reverse ++ st) (hcat : (st.map fun v => v.category).sum ≤ 8)
    (isC isR : List Nat) {wr : va_W} (hC : isC.map (fun i => ws[i]?) = wc.map some) (hRr : isR.map (fun i => ws[i]?) = wr.map some) (hnC : va_nd isC = true) (hnd : va_nd isR = true) (hdis : ∀ i ∈ isR, i ∉ isC) (d : decode cc pc = .ok (.invokestatic idx, 3)) (hf : cells + mc ≤ R0.cells ∧ slots + ms ≤ R0.slots)
    (kk : ∀ (r : Int32) (u : σ), P r u → xw X (cells + mc) (slots + ms) (pc + 3) lv (.int r :: st) (wr ++ wf u)) : xw X cells slots pc lv st0 ws := by
  obtain ⟨⟨p, l, e, R, s, m, args, below, meth, c⟩, ⟨D, cl, A, tys, nX, Q⟩⟩ := X
  obtain ⟨rfl, rfl, rfl, rfl, rfl, hx, hb, hml, rfl, hown, hts, hK, hA, hlk⟩ := K
  intro H locs ls hP hD hS hl
  have hE : xE ow2 L A s := ⟨hE.1, hE.2.1, fun q hq => hE.2.2.1 q (hL q hq), hE.2.2.2⟩
  have hPc := hP.sub (ws' := wc) isC (xfm hC)
  have hDc := hD.sub (ws' := wc) isC hnC hC
  have hFc := va_free (wc := wc) hD hS hA isC hC
  refine va_calli (vx_runSW (As := av) (rest := st) ⟨hx, hb, hml, hown, hts⟩ (hM H.size) (vx_cwSW n hts hg hw hrc hrs hd hroom) ⟨xPreH_blind, fun U hU hW => ⟨rfl, by rw [hU], by rw [hU]; exact hPc, va_K.moved hW.alike hK, hDc.weaken (fun _ _ _ _ => trivial), xE_go hE hS hFc hU hW, fun q hq => va_Nc.moved hW.alike (hN q hq)⟩⟩ rfl hn hl.1 hst (lv_room hcat) d hf) hS (fun q _ h => hFc q h) hFc (fun r u t H1 locs ht hvm hw hB hz1 hk1 hS => ?_)
  obtain ⟨hP1, hK1, hD1⟩ := hB
  rw [ht] at hP1
  obtain ⟨hP, hD⟩ := va_join (wr := wr) (w1 := wf u) hP hD isC isR hC hRr hnd hdis hk1 hFc hP1 hD1
  exact kk r u hw H1 locs ls hP hD hS hl
theorem x_hcallSl (K : xk X l0 R0 D0 cl0 tys0 cc own Ts nL) {y : MethodName} {w w' : List Cond} {rm : Room} {bytes : ByteArray} {maxL n idx : Nat} {av st0 : List Value} {wc : va_W} {σ : Type} {wf : σ → va_W} {P : Int64 → σ → Prop} {ow2 : String} {L L2 : List (Nat × String)} {mc ms : Nat} (hE : xEx X ow2 L2) (hN : xno X) (hL : ∀ q ∈ L, q ∈ L2) (hM : xHl l0 y w rm D0 cl0 tys0 wc av ow2 L wf P mc ms) (hrc : rm.cells = mc) (hrs : rm.slots = ms) (hg : GoodIn Ts (va_wsS own idx y w)) {hh : List (Nat × Nat × Nat × Nat)} (hw : w = Cond.codeWith y bytes maxL (some .long) hh :: w') (hd : y.cls ≠ "java/lang/invoke/MethodHandle" ∧ y.cls ≠ "java/lang/invoke/VarHandle" ∧ (parseMethodDescriptor y.desc).map (fun d => d.parameters.length) = some n) (hroom : rm.frames + 1 ≤ R0.frames ∧ 8 + (maxL + 11) + rm.locals ≤ R0.locals) (hn : av.length = n) (hst : st0 = av.reverse ++ st) (hcat : (st.map fun v => v.category).sum ≤ 8)
    (isC isR : List Nat) {wr : va_W} (hC : isC.map (fun i => ws[i]?) = wc.map some) (hRr : isR.map (fun i => ws[i]?) = wr.map some) (hnC : va_nd isC = true) (hnd : va_nd isR = true) (hdis : ∀ i ∈ isR, i ∉ isC) (d : decode cc pc = .ok (.invokestatic idx, 3)) (hf : cells + mc ≤ R0.cells ∧ slots + ms ≤ R0.slots)
    (kk : ∀ (r : Int64) (u : σ), P r u → xw X (cells + mc) (slots + ms) (pc + 3) lv (.long r :: st) (wr ++ wf u)) : xw X cells slots pc lv st0 ws := by
  obtain ⟨⟨p, l, e, R, s, m, args, below, meth, c⟩, ⟨D, cl, A, tys, nX, Q⟩⟩ := X
  obtain ⟨rfl, rfl, rfl, rfl, rfl, hx, hb, hml, rfl, hown, hts, hK, hA, hlk⟩ := K
  intro H locs ls hP hD hS hl
  have hE : xE ow2 L A s := ⟨hE.1, hE.2.1, fun q hq => hE.2.2.1 q (hL q hq), hE.2.2.2⟩
  have hPc := hP.sub (ws' := wc) isC (xfm hC)
  have hDc := hD.sub (ws' := wc) isC hnC hC
  have hFc := va_free (wc := wc) hD hS hA isC hC
  refine va_calll (vx_runSW (As := av) (rest := st) ⟨hx, hb, hml, hown, hts⟩ (hM H.size) (vx_cwSW n hts hg hw hrc hrs hd hroom) ⟨xPreH_blind, fun U hU hW => ⟨rfl, by rw [hU], by rw [hU]; exact hPc, va_K.moved hW.alike hK, hDc.weaken (fun _ _ _ _ => trivial), xE_go hE hS hFc hU hW, fun q hq => va_Nc.moved hW.alike (hN q hq)⟩⟩ rfl hn hl.1 hst (lv_room hcat) d hf) hS (fun q _ h => hFc q h) hFc (fun r u t H1 locs ht hvm hw hB hz1 hk1 hS => ?_)
  obtain ⟨hP1, hK1, hD1⟩ := hB
  rw [ht] at hP1
  obtain ⟨hP, hD⟩ := va_join (wr := wr) (w1 := wf u) hP hD isC isR hC hRr hnd hdis hk1 hFc hP1 hD1
  exact kk r u hw H1 locs ls hP hD hS hl
theorem x_gcallSz (K : xk X l0 R0 D0 cl0 tys0 cc own Ts nL) {y : MethodName} {w w' : List Cond} {rm : Room} {bytes : ByteArray} {maxL n idx : Nat} {av st0 : List Value} {wc : va_W} {σ : Type} {wf : σ → va_W} {P : Int32 → σ → Prop} {ow2 : String} {L L2 : List (Nat × String)} {mc ms : Nat} (hE : xEx X ow2 L2) (hN : xno X) (hL : ∀ q ∈ L, q ∈ L2) (hM : xHz l0 y w rm D0 cl0 tys0 wc av ow2 L wf P mc ms) (hrc : rm.cells = mc) (hrs : rm.slots = ms) (hg : GoodIn Ts (va_wsS own idx y w)) (hw : w = Cond.code y bytes maxL (some .boolean) :: w') (hd : y.cls ≠ "java/lang/invoke/MethodHandle" ∧ y.cls ≠ "java/lang/invoke/VarHandle" ∧ (parseMethodDescriptor y.desc).map (fun d => d.parameters.length) = some n) (hroom : rm.frames + 1 ≤ R0.frames ∧ 8 + (maxL + 11) + rm.locals ≤ R0.locals) (hn : av.length = n) (hst : st0 = av.reverse ++ st) (hcat : (st.map fun v => v.category).sum ≤ 8)
    (isC isR : List Nat) {wr : va_W} (hC : isC.map (fun i => ws[i]?) = wc.map some) (hRr : isR.map (fun i => ws[i]?) = wr.map some) (hnC : va_nd isC = true) (hnd : va_nd isR = true) (hdis : ∀ i ∈ isR, i ∉ isC) (d : decode cc pc = .ok (.invokestatic idx, 3)) (hf : cells + mc ≤ R0.cells ∧ slots + ms ≤ R0.slots)
    (kk : ∀ (r : Int32) (u : σ), P r u → xw X (cells + mc) (slots + ms) (pc + 3) lv (.int r :: st) (wr ++ wf u)) : xw X cells slots pc lv st0 ws := by
  obtain ⟨⟨p, l, e, R, s, m, args, below, meth, c⟩, ⟨D, cl, A, tys, nX, Q⟩⟩ := X
  obtain ⟨rfl, rfl, rfl, rfl, rfl, hx, hb, hml, rfl, hown, hts, hK, hA, hlk⟩ := K
  intro H locs ls hP hD hS hl
  have hE : xE ow2 L A s := ⟨hE.1, hE.2.1, fun q hq => hE.2.2.1 q (hL q hq), hE.2.2.2⟩
  have hPc := hP.sub (ws' := wc) isC (xfm hC)
  have hDc := hD.sub (ws' := wc) isC hnC hC
  have hFc := va_free (wc := wc) hD hS hA isC hC
  refine va_calli (va_runS (As := av) (rest := st) ⟨hx, hb, hml, hown, hts⟩ (hM H.size) (va_cwS n hts hg hw hrc hrs hd hroom) ⟨xPreH_blind, fun U hU hW => ⟨rfl, by rw [hU], by rw [hU]; exact hPc, va_K.moved hW.alike hK, hDc.weaken (fun _ _ _ _ => trivial), xE_go hE hS hFc hU hW, fun q hq => va_Nc.moved hW.alike (hN q hq)⟩⟩ rfl hn hl.1 hst (lv_room hcat) d hf) hS (fun q _ h => hFc q h) hFc (fun r u t H1 locs ht hvm hw hB hz1 hk1 hS => ?_)
  obtain ⟨hP1, hK1, hD1⟩ := hB
  rw [ht] at hP1
  obtain ⟨hP, hD⟩ := va_join (wr := wr) (w1 := wf u) hP hD isC isR hC hRr hnd hdis hk1 hFc hP1 hD1
  exact kk r u hw H1 locs ls hP hD hS hl
/-- what at(script, k) answers -/
def q_L_at (L : Nat) (xs : Nat → Int32) (k : Int32) (P : Int32 → Prop) : Prop := (k < nI L → xin k L = true ∧ P (xs k.toNatClampNeg)) ∧ (¬ k < nI L → P ((1803870919 : Int32) * (k + (1 : Int32)) + (1106744077 : Int32)))
def xPreS (b L : Nat) (xs : Nat → Int32) (sz : Nat) (av : List Value) : Array Value → State → Prop := va_Pc av (fun U => U.heap.size = sz ∧ va_X b L xs U U.heap ∧ b < sz)
theorem xPreS_blind {b L : Nat} {xs : Nat → Int32} {sz : Nat} {av : List Value} : FrameBlind (xPreS b L xs sz av) := fun a U g mk q => by
  obtain ⟨q0, q1, q2, q3⟩ := q
  exact ⟨q0, q1, va_X.moved (u := U) (U := U.calling g mk a) (Vm.Alike.refl U.vm) q2, q3⟩
def xSi (l : Launch) (y : MethodName) (w : List Cond) (rm : Room) (b L : Nat) (xs : Nat → Int32) (av : List Value) (P : Int32 → Prop) : Prop := ∀ sz : Nat, Met l y w rm (xPreS b L xs sz av) (va_Qi (fun r (_ : Unit) => P r) (fun _ _ => True) (va_A [] sz)) 0 0 (va_A [] sz)
theorem x_lrem (K : xk X l0 R0 D0 cl0 tys0 cc own Ts nL) {x y : Int64} (hne : ¬ y = 0) (d : decode cc pc = .ok (.lrem, 1)) (kk : xw X cells slots (pc + 1) lv (.long (x - x / y * y) :: st) ws) : xw X cells slots pc lv (.long y :: .long x :: st) ws := by
  obtain ⟨⟨p, l, e, R, s, m, args, below, meth, c⟩, ⟨D, cl, A, tys, nX, Q⟩⟩ := X
  obtain ⟨rfl, rfl, rfl, rfl, rfl, hx, hb, hml, rfl, hown, hts, hK, hA, hlk⟩ := K
  intro H locs ls hP hD hS hl
  have k9 := kk H locs ls hP hD hS hl
  intro T hT X
  obtain ⟨t, a, b⟩ := k9 T hT X
  refine ⟨t, ?_, b⟩
  jvm_step X.here [X.here.top, hx, hb, d, hne]
  exact a
theorem x_atcall (K : xk X l0 R0 D0 cl0 tys0 cc own Ts nL) {b L : Nat} {xs : Nat → Int32} (hsc : xsc X b L xs) {y : MethodName} {w w' : List Cond} {rm : Room} {bytes : ByteArray} {maxL n idx : Nat} {av st0 : List Value} {P : Int32 → Prop} (hM : xSi l0 y w rm b L xs av P) (hrc : rm.cells = 0) (hrs : rm.slots = 0) (hg : GoodIn Ts (va_wsS own idx y w)) (hw : w = Cond.code y bytes maxL (some .int) :: w') (hd : y.cls ≠ "java/lang/invoke/MethodHandle" ∧ y.cls ≠ "java/lang/invoke/VarHandle" ∧ (parseMethodDescriptor y.desc).map (fun d => d.parameters.length) = some n) (hroom : rm.frames + 1 ≤ R0.frames ∧ 8 + (maxL + 11) + rm.locals ≤ R0.locals) (hn : av.length = n) (hst : st0 = av.reverse ++ st) (hcat : (st.map fun v => v.category).sum ≤ 8)
    (d : decode cc pc = .ok (.invokestatic idx, 3)) (hf : cells ≤ R0.cells ∧ slots ≤ R0.slots)
    (kk : ∀ r : Int32, P r → xw X cells slots (pc + 3) lv (.int r :: st) ws) : xw X cells slots pc lv st0 ws := by
  obtain ⟨⟨p, l, e, R, s, m, args, below, meth, c⟩, ⟨D, cl, A, tys, nX, Q⟩⟩ := X
  obtain ⟨rfl, rfl, rfl, rfl, rfl, hx, hb, hml, rfl, hown, hts, hK, hA, hlk⟩ := K
  obtain ⟨hX, hbl, hbA⟩ := hsc
  intro H locs ls hP hD hS hl
  have hFc : ∀ q, va_A [] H.size q → A q := fun q h => hA q (by
    rcases h with ⟨k, e, h⟩ | h
    · simp at h
    · exact Nat.le_trans hS.1 h)
  have hX2 : va_X b L xs s H := hX.kept (hS.2.1 b hbl hbA)
  refine va_calli (va_runS (As := av) (rest := st) ⟨hx, hb, hml, hown, hts⟩ (hM H.size) (va_cwS n hts hg hw hrc hrs hd hroom) ⟨xPreS_blind, fun U hU hW => ⟨rfl, by rw [hU], by rw [hU]; exact va_X.moved hW.alike hX2, Nat.lt_of_lt_of_le hbl hS.1⟩⟩ rfl hn hl.1 hst (lv_room hcat) d hf) hS (fun q _ h => hFc q h) hFc (fun r u t H1 locs ht hvm hw hB hz1 hk1 hS => ?_)
  have hP2 : va_P D cl ws H1 := hP.kept (fun k q hq => hk1 q.1 (vx_lt hP hq) (x_emp (H := H) (vx_lt hP hq)))
  exact kk r hw H1 locs ls hP2 hD hS hl
end XL
theorem xSi_of {l : Launch} {y : MethodName} {w w' : List Cond} {rm : Room} {b L : Nat} {xs : Nat → Int32} {av : List Value} {P : Int32 → Prop} {cc : ByteArray} {maxL : Nat}
    (hy : plainName y.cls = true) (hw : w = Cond.code y cc maxL (some .int) :: w') (hav : (lg_sl av).length ≤ maxL)
    (body : ∀ X : xC, xk X l rm ((fun _ => 0), (fun _ _ => 0)) [] [] cc y.cls w maxL → xsc X b L xs → (∀ (r : Int32) (pc : Nat) (lv : List (Nat × Value)), P r → decode cc pc = .ok (.ireturn, 1) → xw X 0 0 pc lv [.int r] []) → xw X 0 0 0 (lv_args 0 av) [] []) : xSi l y w rm b L xs av P := by
  intro sz
  refine Met.ofW (cc := cc) (maxL := maxL) (ret := some .int) hy hw ?_
  intro p e s m args below meth c s₁ B hml hv
  obtain ⟨rfl, hsz, hX, hbs⟩ := hv
  have hx := B.exec
  have hb := B.bytes
  have hr := B.returns
  have hts := atoms_spec (ws := w) B.pre
  have hown : s.vm.findClass y.cls = some m.cls := findClass_of_methodNamed B.named
  have hlocks := B.notSynchronized
  subst hsz
  have hS : va_S (va_A [] s.heap.size) s.heap s.heap [] := va_S.rf
  have hl := lv_entry av (n := maxL) hav
  rw [lg_entry_eq]
  exact body ((p, l, e, rm, s, m, av.toArray, below, meth, c), (((fun _ => 0), (fun _ _ => 0)), [], va_A [] s.heap.size, [], maxL, MQ below (va_Qi (fun r (_ : Unit) => P r) (fun _ _ => True) (va_A [] s.heap.size)) av.toArray s 0 0 (va_A [] s.heap.size)))
    ⟨rfl, rfl, rfl, rfl, rfl, hx, hb, hml, rfl, hown, hts, ⟨fun k q hq => by simp at hq, fun k q hq => by simp at hq⟩, fun q h => Or.inr h, hlocks⟩
    ⟨hX, hbs, x_emp (H := s.heap) hbs⟩
    (by
      intro r pc lv hp hd H locs ls hP hD hS hl
      exact W.iret (v := r) hx hb hr (fun t ht hW => ⟨⟨r, (), rfl, hp, trivial⟩, hS.F ht⟩) hS.2.2 hd)
    s.heap [] _ x_empP x_empD hS hl
theorem xMiW_of {l : Launch} {y : MethodName} {w w' : List Cond} {rm : Room} {D : va_G} {cl : List vw_C} {tys : List (ClassId × FieldType)} {ws : va_W} {av : List Value} {σ : Type} {wf : σ → va_W} {P : Int32 → σ → Prop} {cc : ByteArray} {maxL : Nat}
    (hy : plainName y.cls = true) {hh : List (Nat × Nat × Nat × Nat)} (hw : w = Cond.codeWith y cc maxL (some .int) hh :: w') (hav : (lg_sl av).length ≤ maxL)
    (body : ∀ X : xC, xk X l rm D cl tys cc y.cls w maxL → xei X cc 0 0 wf P → xw X 0 0 0 (lv_args 0 av) [] ws) : xMi l y w rm D cl tys ws av wf P := by
  intro sz
  refine Met.ofWH (cc := cc) (maxL := maxL) (ret := some .int) hy hw ?_
  intro p e s m args below meth c s₁ B hml hv
  obtain ⟨rfl, hsz, hP, hK, hD0⟩ := hv
  have hx := B.exec
  have hb := B.bytes
  have hr := B.returns
  have hts := atoms_spec (ws := w) B.pre
  have hown : s.vm.findClass y.cls = some m.cls := findClass_of_methodNamed B.named
  have hlocks := B.notSynchronized
  subst hsz
  have hD := hD0.self (sz := s.heap.size)
  have hS : va_S (va_A ws s.heap.size) s.heap s.heap [] := va_S.rf
  have hl := lv_entry av (n := maxL) hav
  rw [lg_entry_eq]
  exact body ((p, l, e, rm, s, m, av.toArray, below, meth, c), (D, cl, va_A ws s.heap.size, tys, maxL, MQ below (va_Qi P (fun u t => xB D cl tys (va_A ws s.heap.size) (wf u) t) (va_A ws s.heap.size)) av.toArray s 0 0 (va_A ws s.heap.size)))
    ⟨rfl, rfl, rfl, rfl, rfl, hx, hb, hml, rfl, hown, hts, hK, fun q h => Or.inr h, hlocks⟩
    (by
      intro r u pc lv hp hd H locs ls hP hD hS hl
      exact W.iret (v := r) hx hb hr (fun t ht hW => ⟨⟨r, u, rfl, hp, by rw [ht]; exact hP, va_K.moved hW.alike hK, hD⟩, hS.F ht⟩) hS.2.2 hd)
    s.heap [] _ hP hD hS hl
theorem xMlW_of {l : Launch} {y : MethodName} {w w' : List Cond} {rm : Room} {D : va_G} {cl : List vw_C} {tys : List (ClassId × FieldType)} {ws : va_W} {av : List Value} {σ : Type} {wf : σ → va_W} {P : Int64 → σ → Prop} {cc : ByteArray} {maxL : Nat}
    (hy : plainName y.cls = true) {hh : List (Nat × Nat × Nat × Nat)} (hw : w = Cond.codeWith y cc maxL (some .long) hh :: w') (hav : (lg_sl av).length ≤ maxL)
    (body : ∀ X : xC, xk X l rm D cl tys cc y.cls w maxL → xel X cc 0 0 wf P → xw X 0 0 0 (lv_args 0 av) [] ws) : xMl l y w rm D cl tys ws av wf P := by
  intro sz
  refine Met.ofWH (cc := cc) (maxL := maxL) (ret := some .long) hy hw ?_
  intro p e s m args below meth c s₁ B hml hv
  obtain ⟨rfl, hsz, hP, hK, hD0⟩ := hv
  have hx := B.exec
  have hb := B.bytes
  have hr := B.returns
  have hts := atoms_spec (ws := w) B.pre
  have hown : s.vm.findClass y.cls = some m.cls := findClass_of_methodNamed B.named
  have hlocks := B.notSynchronized
  subst hsz
  have hD := hD0.self (sz := s.heap.size)
  have hS : va_S (va_A ws s.heap.size) s.heap s.heap [] := va_S.rf
  have hl := lv_entry av (n := maxL) hav
  rw [lg_entry_eq]
  exact body ((p, l, e, rm, s, m, av.toArray, below, meth, c), (D, cl, va_A ws s.heap.size, tys, maxL, MQ below (va_Ql P (fun u t => xB D cl tys (va_A ws s.heap.size) (wf u) t) (va_A ws s.heap.size)) av.toArray s 0 0 (va_A ws s.heap.size)))
    ⟨rfl, rfl, rfl, rfl, rfl, hx, hb, hml, rfl, hown, hts, hK, fun q h => Or.inr h, hlocks⟩
    (by
      intro r u pc lv hp hd H locs ls hP hD hS hl
      exact W.lret (v := r) hx hb hr (fun t ht hW => ⟨⟨r, u, rfl, hp, by rw [ht]; exact hP, va_K.moved hW.alike hK, hD⟩, hS.F ht⟩) hS.2.2 hd)
    s.heap [] _ hP hD hS hl
theorem x_wcallSi {X : xC} {cc : ByteArray} {own : String} {Ts : List Cond} {nL cells slots pc : Nat} {lv : List (Nat × Value)} {st : List Value} {ws : va_W} {l : Launch} {R : Room} {D : va_G} {cl : List vw_C} {tys : List (ClassId × FieldType)} (K : xk X l R D cl tys cc own Ts nL) {y : MethodName} {w w' : List Cond} {rm : Room} {bytes : ByteArray} {maxL n idx : Nat} {av st0 : List Value} {wc : va_W} {σ : Type} {wf : σ → va_W} {P : Int32 → σ → Prop} (hM : xMi l y w rm D cl tys wc av wf P) (hrc : rm.cells = 0) (hrs : rm.slots = 0) (hg : GoodIn Ts (va_wsS own idx y w)) {hh : List (Nat × Nat × Nat × Nat)} (hw : w = Cond.codeWith y bytes maxL (some .int) hh :: w') (hd : y.cls ≠ "java/lang/invoke/MethodHandle" ∧ y.cls ≠ "java/lang/invoke/VarHandle" ∧ (parseMethodDescriptor y.desc).map (fun d => d.parameters.length) = some n) (hroom : rm.frames + 1 ≤ R.frames ∧ 8 + (maxL + 11) + rm.locals ≤ R.locals) (hn : av.length = n) (hst : st0 = av.reverse ++ st) (hcat : (st.map fun v => v.category).sum ≤ 8)
    (isC isR : List Nat) {wr : va_W} (hC : isC.map (fun i => ws[i]?) = wc.map some) (hRr : isR.map (fun i => ws[i]?) = wr.map some) (hnC : va_nd isC = true) (hnd : va_nd isR = true) (hdis : ∀ i ∈ isR, i ∉ isC) (d : decode cc pc = .ok (.invokestatic idx, 3)) (hf : cells ≤ R.cells ∧ slots ≤ R.slots)
    (kk : ∀ (r : Int32) (u : σ), P r u → xw X cells slots (pc + 3) lv (.int r :: st) (wr ++ wf u)) : xw X cells slots pc lv st0 ws := by
  obtain ⟨⟨p, l, e, R, s, m, args, below, meth, c⟩, ⟨D, cl, A, tys, nX, Q⟩⟩ := X
  obtain ⟨rfl, rfl, rfl, rfl, rfl, hx, hb, hml, rfl, hown, hts, hK, hA, hlk⟩ := K
  intro H locs ls hP hD hS hl
  have hPc := hP.sub (ws' := wc) isC (xfm hC)
  have hDc := hD.sub (ws' := wc) isC hnC hC
  have hFc := va_free (wc := wc) hD hS hA isC hC
  refine va_calli (vx_runSW (As := av) (rest := st) ⟨hx, hb, hml, hown, hts⟩ (hM H.size) (vx_cwSW n hts hg hw hrc hrs hd hroom) ⟨xPre_blind, fun U hU hW => ⟨rfl, by rw [hU], by rw [hU]; exact hPc, va_K.moved hW.alike hK, hDc.weaken (fun _ _ _ _ => trivial)⟩⟩ rfl hn hl.1 hst (lv_room hcat) d hf) hS (fun q _ h => hFc q h) hFc (fun r u t H1 locs ht hvm hw hB hz1 hk1 hS => ?_)
  obtain ⟨hP1, hK1, hD1⟩ := hB
  rw [ht] at hP1
  obtain ⟨hP, hD⟩ := va_join (wr := wr) (w1 := wf u) hP hD isC isR hC hRr hnd hdis hk1 hFc hP1 hD1
  exact kk r u hw H1 locs ls hP hD hS hl
theorem x_wcallSl {X : xC} {cc : ByteArray} {own : String} {Ts : List Cond} {nL cells slots pc : Nat} {lv : List (Nat × Value)} {st : List Value} {ws : va_W} {l : Launch} {R : Room} {D : va_G} {cl : List vw_C} {tys : List (ClassId × FieldType)} (K : xk X l R D cl tys cc own Ts nL) {y : MethodName} {w w' : List Cond} {rm : Room} {bytes : ByteArray} {maxL n idx : Nat} {av st0 : List Value} {wc : va_W} {σ : Type} {wf : σ → va_W} {P : Int64 → σ → Prop} (hM : xMl l y w rm D cl tys wc av wf P) (hrc : rm.cells = 0) (hrs : rm.slots = 0) (hg : GoodIn Ts (va_wsS own idx y w)) {hh : List (Nat × Nat × Nat × Nat)} (hw : w = Cond.codeWith y bytes maxL (some .long) hh :: w') (hd : y.cls ≠ "java/lang/invoke/MethodHandle" ∧ y.cls ≠ "java/lang/invoke/VarHandle" ∧ (parseMethodDescriptor y.desc).map (fun d => d.parameters.length) = some n) (hroom : rm.frames + 1 ≤ R.frames ∧ 8 + (maxL + 11) + rm.locals ≤ R.locals) (hn : av.length = n) (hst : st0 = av.reverse ++ st) (hcat : (st.map fun v => v.category).sum ≤ 8)
    (isC isR : List Nat) {wr : va_W} (hC : isC.map (fun i => ws[i]?) = wc.map some) (hRr : isR.map (fun i => ws[i]?) = wr.map some) (hnC : va_nd isC = true) (hnd : va_nd isR = true) (hdis : ∀ i ∈ isR, i ∉ isC) (d : decode cc pc = .ok (.invokestatic idx, 3)) (hf : cells ≤ R.cells ∧ slots ≤ R.slots)
    (kk : ∀ (r : Int64) (u : σ), P r u → xw X cells slots (pc + 3) lv (.long r :: st) (wr ++ wf u)) : xw X cells slots pc lv st0 ws := by
  obtain ⟨⟨p, l, e, R, s, m, args, below, meth, c⟩, ⟨D, cl, A, tys, nX, Q⟩⟩ := X
  obtain ⟨rfl, rfl, rfl, rfl, rfl, hx, hb, hml, rfl, hown, hts, hK, hA, hlk⟩ := K
  intro H locs ls hP hD hS hl
  have hPc := hP.sub (ws' := wc) isC (xfm hC)
  have hDc := hD.sub (ws' := wc) isC hnC hC
  have hFc := va_free (wc := wc) hD hS hA isC hC
  refine va_calll (vx_runSW (As := av) (rest := st) ⟨hx, hb, hml, hown, hts⟩ (hM H.size) (vx_cwSW n hts hg hw hrc hrs hd hroom) ⟨xPre_blind, fun U hU hW => ⟨rfl, by rw [hU], by rw [hU]; exact hPc, va_K.moved hW.alike hK, hDc.weaken (fun _ _ _ _ => trivial)⟩⟩ rfl hn hl.1 hst (lv_room hcat) d hf) hS (fun q _ h => hFc q h) hFc (fun r u t H1 locs ht hvm hw hB hz1 hk1 hS => ?_)
  obtain ⟨hP1, hK1, hD1⟩ := hB
  rw [ht] at hP1
  obtain ⟨hP, hD⟩ := va_join (wr := wr) (w1 := wf u) hP hD isC isR hC hRr hnd hdis hk1 hFc hP1 hD1
  exact kk r u hw H1 locs ls hP hD hS hl
