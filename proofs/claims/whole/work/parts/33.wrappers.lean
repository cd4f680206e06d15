/-! the law's wrappers: what the class answers, or which exception it throws -/
def xNo : List (String × String) := [("java/lang/IllegalArgumentException", "java/lang/IndexOutOfBoundsException"), ("java/lang/IllegalStateException", "java/lang/IndexOutOfBoundsException"), ("java/lang/IllegalStateException", "java/lang/IllegalArgumentException")]
def wLo (cI cJ cZ cA : ClassId) (V : Nat → Nat) (land : Nat → Int64) (there : Int32) (near : Nat → Int32) (worn : Nat → Int32) (trial : Nat → Int32) (fits : Nat → Int32) (ways : Nat → Int64) (joined : Nat → Nat → Int32) (ao : Nat) (out : Nat → Int64) : va_W := wX0J cI cJ cZ cA V land there near worn trial fits ways joined ++ [(ao, .inl (cJ, 1, .inr (.inl out)))]
def xPreH (D : va_G) (cl : List vw_C) (tys : List (ClassId × FieldType)) (ws : va_W) (sz : Nat) (av : List Value) (own : String) (L : List (Nat × String)) : Array Value → State → Prop := va_Pc av (fun U => U.heap.size = sz ∧ va_P D cl ws U.heap ∧ va_K D cl tys U ∧ va_D (fun _ => True) ws ∧ xE own L (va_A ws sz) U ∧ ∀ q ∈ xNo, va_Nc q.1 q.2 U)
theorem xPreH_blind {D : va_G} {cl : List vw_C} {tys : List (ClassId × FieldType)} {ws : va_W} {sz : Nat} {av : List Value} {own : String} {L : List (Nat × String)} : FrameBlind (xPreH D cl tys ws sz av own L) := fun a U g mk q => by
  obtain ⟨q0, q1, qP, qK, qD, ⟨e1, e2, e3, e4⟩, e5⟩ := q
  refine ⟨q0, q1, qP, va_K.moved (u := U) (U := U.calling g mk a) (Vm.Alike.refl U.vm) qK, qD, ⟨vx_Zq.moved (u := U) (U := U.calling g mk a) (Vm.Alike.refl U.vm) e1, vx_Zq.moved (u := U) (U := U.calling g mk a) (Vm.Alike.refl U.vm) e2, fun z hz => ?_, xBad_same (u := U) (U := U.calling g mk a) rfl e4⟩, fun q hq => va_Nc.moved (u := U) (U := U.calling g mk a) (Vm.Alike.refl U.vm) (e5 q hq)⟩
  obtain ⟨sa, h⟩ := e3 z hz
  exact ⟨sa, vk_R.same rfl h⟩
def xHi (l : Launch) (y : MethodName) (w : List Cond) (rm : Room) (D : va_G) (cl : List vw_C) (tys : List (ClassId × FieldType)) (ws : va_W) (av : List Value) (own : String) (L : List (Nat × String)) {σ : Type} (wf : σ → va_W) (P : Int32 → σ → Prop) (mc ms : Nat) : Prop := ∀ sz : Nat, Met l y w rm (xPreH D cl tys ws sz av own L) (va_Qi P (fun u t => xB D cl tys (va_A ws sz) (wf u) t) (va_A ws sz)) mc ms (va_A ws sz)
/-- the table of handlers, and which exceptions are no such others -/
def xtab : xC → List (Nat × Nat × Nat × Nat) → Prop
  | ((_, _, _, _, s, _, _, _, _, c), _), hh => c.exceptionTable.toList = tableOf hh ∧ ∀ q ∈ xNo, va_Nc q.1 q.2 s
theorem Met.ofWH {l : Launch} {y : MethodName} {ws ws' : List Cond} {rm : Room} {Pc : Array Value → State → Prop} {Qc : Array Value → State → Outcome → State → Prop} {mc ms : Nat} {free : Addr → Prop} {cc : ByteArray} {maxL : Nat} {ret : Option FieldType} {hh : List (Nat × Nat × Nat × Nat)}
    (hy : plainName y.cls = true) (hw : ws = Cond.codeWith y cc maxL ret hh :: ws')
    (body : ∀ p e s m args below meth c s₁, BodyLoose p l y (headSpec ws rm) cc maxL ret e s m args below meth c s₁ → c.maxLocals = maxL → Pc args s →
      W p l e (headSpec ws rm).room s m args below meth c s.heap [] 0 0 (MQ below Qc args s mc ms free) (entryFrame m args maxL)) : Met l y ws rm Pc Qc mc ms free := by
  refine MetFree.of_bodyS (code := cc) (maxLocals := maxL) (ret := ret) hy ?_ ?_
  · intro args s m h hn
    obtain ⟨m9, meth, c, hn9, h1, h2, h3, h4, -, h5, h6, -⟩ := Cond.codeWith_spec (atoms_spec (ws := ws) h _ (by rw [hw]; exact List.mem_cons_self))
    cases hn.symm.trans hn9
    exact ⟨meth, c, h1, h2, h3, h4, h5, h6⟩
  · intro p e s m args below meth c s₁ B hml hP _
    have hh0 : s₁.heap = s.heap := by rw [B.state]; rfl
    obtain ⟨t, a1, o, b1, b2, b3⟩ := body p e s m args below meth c s₁ B hml hP s₁ hh0 (Stand.of_body B)
    exact ⟨t, o, a1, b1, b2, ⟨b3.1, b3.2⟩⟩
theorem xHi_of {l : Launch} {y : MethodName} {w w' : List Cond} {rm : Room} {D : va_G} {cl : List vw_C} {tys : List (ClassId × FieldType)} {ws : va_W} {av : List Value} {own : String} {L : List (Nat × String)} {σ : Type} {wf : σ → va_W} {P : Int32 → σ → Prop} {mc ms : Nat} {cc : ByteArray} {maxL : Nat} {hh : List (Nat × Nat × Nat × Nat)}
    (hy : plainName y.cls = true) (hw : w = Cond.codeWith y cc maxL (some .int) hh :: w') (hav : (lg_sl av).length ≤ maxL)
    (body : ∀ X : xC, xk X l rm D cl tys cc y.cls w maxL → xEx X own L → xtab X hh → xei X cc mc ms wf P → xw X 0 0 0 (lv_args 0 av) [] ws) : xHi l y w rm D cl tys ws av own L wf P mc ms := by
  intro sz
  refine Met.ofWH (cc := cc) (maxL := maxL) (ret := some .int) hy hw ?_
  intro p e s m args below meth c s₁ B hml hv
  obtain ⟨rfl, hsz, hP, hK, hD0, hE, hN⟩ := hv
  have hx := B.exec
  have hb := B.bytes
  have hr := B.returns
  have hts := atoms_spec (ws := w) B.pre
  have hown : s.vm.findClass y.cls = some m.cls := findClass_of_methodNamed B.named
  have hlocks := B.notSynchronized
  subst hsz
  have hD := hD0.self (sz := s.heap.size)
  have hS : va_S (va_A ws s.heap.size) s.heap s.heap [] := va_S.rf
  have hl := lv_entry av (n := maxL) hav
  rw [lg_entry_eq]
  exact body ((p, l, e, rm, s, m, av.toArray, below, meth, c), (D, cl, va_A ws s.heap.size, tys, maxL, MQ below (va_Qi P (fun u t => xB D cl tys (va_A ws s.heap.size) (wf u) t) (va_A ws s.heap.size)) av.toArray s mc ms (va_A ws s.heap.size)))
    ⟨rfl, rfl, rfl, rfl, rfl, hx, hb, hml, rfl, hown, hts, hK, fun q h => Or.inr h, hlocks⟩ hE ⟨vx_table (x := y) B (hts _ (by rw [hw]; exact List.mem_cons_self)), hN⟩
    (by
      intro r u pc lv hp hd H locs ls hP hD hS hl
      exact W.iret (v := r) hx hb hr (fun t ht hW => ⟨⟨r, u, rfl, hp, by rw [ht]; exact hP, va_K.moved hW.alike hK, hD⟩, hS.F ht⟩) hS.2.2 hd)
    s.heap [] _ hP hD hS hl
theorem x_catch {X : xC} {l : Launch} {R : Room} {D : va_G} {cl : List vw_C} {tys : List (ClassId × FieldType)} {cc : ByteArray} {own : String} {Ts : List Cond} {nL cells slots pc : Nat} {lv : List (Nat × Value)} {st : List Value} {ws : va_W} {ow2 : String} {L : List (Nat × String)} {hh : List (Nat × Nat × Nat × Nat)} (K : xk X l R D cl tys cc own Ts nL) (hE : xEx X ow2 L) (ht : xtab X hh) {E : String} (pre : List (Nat × Nat × Nat × Nat)) (x : Nat × Nat × Nat × Nat) (suf : List (Nat × Nat × Nat × Nat)) (hsplit : hh = pre ++ x :: suf) (hpass : ∀ z ∈ pre, z.2.2.2 ≠ 0 ∧ ∃ nm : String, Cond.classLink own z.2.2.2 nm ∈ Ts ∧ (E, nm) ∈ xNo) (hx : covers ⟨x.1, x.2.1, x.2.2.1, x.2.2.2⟩ pc = true) (h0 : x.2.2.2 ≠ 0) (hlink : Cond.classLink own x.2.2.2 E ∈ Ts) (hbad : Cond.castable E E ∈ xBad) (kk : ∀ q : Nat, xw X cells slots x.2.2.1 lv [.ref q] ws) : xwx X cells slots pc lv st ws E := by
  obtain ⟨⟨p, l, e, R, s, m, args, below, meth, c⟩, ⟨D, cl, A, tys, nX, Q⟩⟩ := X
  obtain ⟨rfl, rfl, rfl, rfl, rfl, hx9, hb, hml, rfl, hown, hts, hK, hA, hlk⟩ := K
  subst hsplit
  intro H locs ls ce q hP hD hS hl hce hcv hcc
  refine vx_catch hown (tableOf pre) ⟨x.1, x.2.1, x.2.2.1, x.2.2.2⟩ (tableOf suf) (by rw [ht.1]; simp [tableOf]) (fun z hz => ?_) hx h0 (hts _ hlink) (va_tabs rfl rfl (hE.2.2.2 _ hbad)) hce hcv hcc (kk q H locs ls hP hD hS hl)
  obtain ⟨z0, hz0, rfl⟩ := List.mem_map.mp hz
  obtain ⟨h1, nm, h2, h3⟩ := hpass z0 hz0
  exact Or.inr ⟨h1, nm, hts _ h2, ht.2 _ h3⟩

def q_L_paint (p1 : Int32) (p2 : Int32) (p3 : Int32) (land : Nat → Int64) (near : Nat → Int32) (there : Int32) (out : Nat → Int64) (P : Int32 → (Nat → Int64) → Int32 → (Nat → Int32) → (Nat → Int64) → Prop) : Prop := q_X0_paint p1 p2 p3 land near (fun (r : Int32) (o0 : Nat → Int64) (o1 : Int32) (o2 : Nat → Int32) => P (0 : Int32) o0 o1 o2 (vp_updL out (0 : Int32).toNatClampNeg r.toInt64)) (fun E => (E = "java/lang/IndexOutOfBoundsException" ∧ P (1 : Int32) land there near out) ∨ (E = "java/lang/IllegalArgumentException" ∧ P (2 : Int32) land there near out))
abbrev rm_L_paint : Room := { frames := 13, cells := 2, slots := 12, locals := 320 }
theorem kL_paint_0 : Cond.classLink RL 13 "java/lang/IndexOutOfBoundsException" ∈ wsL_paint := by decide +kernel
theorem kL_paint_1 : Cond.classLink RL 15 "java/lang/IllegalArgumentException" ∈ wsL_paint := by decide +kernel
set_option maxHeartbeats 4000000 in
set_option maxRecDepth 100000 in
theorem c_L_paint (l : Launch) (D : va_G) (cI cJ cZ cA : ClassId) (hst : l.stackTraces = false) (V : Nat → Nat) (ao : Nat) (p1 : Int32) (p2 : Int32) (p3 : Int32) (land : Nat → Int64) (there : Int32) (near : Nat → Int32) (worn : Nat → Int32) (trial : Nat → Int32) (fits : Nat → Int32) (ways : Nat → Int64) (joined : Nat → Nat → Int32) (out : Nat → Int64) (P : Int32 → (Nat → Int64) → Int32 → (Nat → Int32) → (Nat → Int64) → Prop) (h : q_L_paint p1 p2 p3 land near there out P) : xHi l yL_paint wsL_paint rm_L_paint D vwCl (xtys cI cJ cZ cA) (wLo cI cJ cZ cA V land there near worn trial fits ways joined ao out) [.ref (V 0), .int p1, .int p2, .int p3, .ref ao] RX0 [(180, "there is no such row or column"), (185, "neither a country nor sea")] (σ := (Nat → Int64) × Int32 × (Nat → Int32) × (Nat → Int64)) (fun u => (wLo cI cJ cZ cA V u.1 u.2.1 u.2.2.1 worn trial fits ways joined ao u.2.2.2)) (fun r u => P r u.1 u.2.1 u.2.2.1 u.2.2.2) 2 12 := by
  refine xHi_of (cc := cL_paint) (maxL := 6) (hh := [(0, 12, 15, 13), (0, 12, 19, 15)]) (by decide) rfl (Nat.le_of_ble_eq_true rfl) ?_
  intro X K hE ht hX
  have K : xk X l rm_L_paint D vwCl (xtys cI cJ cZ cA) cL_paint RL wsL_paint 6 := K
  unfold q_L_paint at h
  refine x_aload (pc := 0) K dL_paint_0 4 rfl ?_
  refine x_iconst (v := 0) (pc := 2) K dL_paint_2 (by decide) ?_
  refine x_aload_n (pc := 3) K dL_paint_3 0 rfl rfl ?_
  refine x_iload_n (pc := 4) K dL_paint_4 1 rfl rfl ?_
  refine x_iload_n (pc := 5) K dL_paint_5 2 rfl rfl ?_
  refine x_iload_n (pc := 6) K dL_paint_6 3 rfl rfl ?_
  refine x_tcallVi (pc := 7) (n := 3) K hE (by decide) (c_X0_paint l D cI cJ cZ cA hst V p1 p2 p3 land there near worn trial fits ways _ _ h) rfl rfl gL_paint_X0_paint rfl (by decide +kernel) ⟨Nat.le_of_ble_eq_true rfl, Nat.le_of_ble_eq_true rfl⟩ rfl (av := [.int p1, .int p2, .int p3]) (b := V 0) (ci := 0) (q0 := 0) rfl rfl rfl (Nat.le_of_ble_eq_true rfl) [0, 1, 2, 3, 4, 5, 6] [7, 8, 9, 10, 11, 12, 13, 14, 15, 16, 17, 18] (wr := (wJ cI cA (V 7) (fun k => V (k + 8)) joined ++ [(ao, .inl (cJ, 1, .inr (.inl out)))])) rfl rfl rfl rfl (by decide) dL_paint_7 ⟨Nat.le_of_ble_eq_true rfl, Nat.le_of_ble_eq_true rfl⟩ (fun E hT => ?_) (fun r u9 h => ?_)
  · rcases hT with ⟨rfl, hp⟩ | ⟨rfl, hp⟩
    · refine x_catch K hE ht [] (0, 12, 15, 13) [(0, 12, 19, 15)] rfl (fun z hz => absurd hz List.not_mem_nil) (by decide) (by decide) kL_paint_0 (by decide) (fun q => ?_)
      refine x_astore (lv' := [(0, .ref (V 0)), (1, .int p1), (2, .int p2), (3, .int p3), (4, .ref ao), (5, .ref q)]) (pc := 15) K dL_paint_15 (by decide) rfl ?_
      refine x_iconst (v := 1) (pc := 17) K dL_paint_17 (by decide) ?_
      refine x_wsub (ws' := (wLo cI cJ cZ cA V land there near worn trial fits ways joined ao out)) [12, 13, 14, 15, 16, 17, 18, 0, 1, 2, 3, 4, 5, 6, 7, 8, 9, 10, 11] rfl rfl ?_
      exact hX 1 (land, there, near, out) _ _ hp dL_paint_18
    · refine x_catch K hE ht [(0, 12, 15, 13)] (0, 12, 19, 15) [] rfl (fun z hz => by obtain rfl := List.mem_singleton.mp hz; exact ⟨by decide, "java/lang/IndexOutOfBoundsException", kL_paint_0, by decide⟩) (by decide) (by decide) kL_paint_1 (by decide) (fun q => ?_)
      refine x_astore (lv' := [(0, .ref (V 0)), (1, .int p1), (2, .int p2), (3, .int p3), (4, .ref ao), (5, .ref q)]) (pc := 19) K dL_paint_19 (by decide) rfl ?_
      refine x_iconst (v := 2) (pc := 21) K dL_paint_21 (by decide) ?_
      refine x_wsub (ws' := (wLo cI cJ cZ cA V land there near worn trial fits ways joined ao out)) [12, 13, 14, 15, 16, 17, 18, 0, 1, 2, 3, 4, 5, 6, 7, 8, 9, 10, 11] rfl rfl ?_
      exact hX 2 (land, there, near, out) _ _ hp dL_paint_22
  · obtain ⟨o0, o1, o2⟩ := u9
    refine x_wsub (ws' := (wLo cI cJ cZ cA V o0 o1 o2 worn trial fits ways joined ao out)) [12, 13, 14, 15, 16, 17, 18, 0, 1, 2, 3, 4, 5, 6, 7, 8, 9, 10, 11] rfl rfl ?_
    refine x_i2l (pc := 10) K dL_paint_10 ?_
    refine x_last (ws' := (wLo cI cJ cZ cA V o0 o1 o2 worn trial fits ways joined ao (vp_updL out (0 : Int32).toNatClampNeg r.toInt64))) (pc := 11) K 18 1 rfl rfl rfl (by decide) dL_paint_11 ?_
    refine x_goto (pc := 12) K dL_paint_12 (tgt := 23) (by decide) ?_
    refine x_iconst (v := 0) (pc := 23) K dL_paint_23 (by decide) ?_
    exact hX 0 (o0, o1, o2, (vp_updL out (0 : Int32).toNatClampNeg r.toInt64)) _ _ h dL_paint_24
def q_L_paintBlock (p1 : Int32) (p2 : Int32) (p3 : Int32) (p4 : Int32) (p5 : Int32) (land : Nat → Int64) (near : Nat → Int32) (there : Int32) (out : Nat → Int64) (P : Int32 → (Nat → Int64) → Int32 → (Nat → Int32) → (Nat → Int64) → Prop) : Prop := q_X0_paintBlock p1 p2 p3 p4 p5 land near (fun (r : Int32) (o0 : Nat → Int64) (o1 : Int32) (o2 : Nat → Int32) => P (0 : Int32) o0 o1 o2 (vp_updL out (0 : Int32).toNatClampNeg r.toInt64)) (fun E => (E = "java/lang/IndexOutOfBoundsException" ∧ P (1 : Int32) land there near out) ∨ (E = "java/lang/IllegalArgumentException" ∧ P (2 : Int32) land there near out))
abbrev rm_L_paintBlock : Room := { frames := 13, cells := 4, slots := 24, locals := 320 }
theorem kL_paintBlock_0 : Cond.classLink RL 13 "java/lang/IndexOutOfBoundsException" ∈ wsL_paintBlock := by decide +kernel
theorem kL_paintBlock_1 : Cond.classLink RL 15 "java/lang/IllegalArgumentException" ∈ wsL_paintBlock := by decide +kernel
set_option maxHeartbeats 4000000 in
set_option maxRecDepth 100000 in
theorem c_L_paintBlock (l : Launch) (D : va_G) (cI cJ cZ cA : ClassId) (hst : l.stackTraces = false) (V : Nat → Nat) (ao : Nat) (p1 : Int32) (p2 : Int32) (p3 : Int32) (p4 : Int32) (p5 : Int32) (land : Nat → Int64) (there : Int32) (near : Nat → Int32) (worn : Nat → Int32) (trial : Nat → Int32) (fits : Nat → Int32) (ways : Nat → Int64) (joined : Nat → Nat → Int32) (out : Nat → Int64) (P : Int32 → (Nat → Int64) → Int32 → (Nat → Int32) → (Nat → Int64) → Prop) (h : q_L_paintBlock p1 p2 p3 p4 p5 land near there out P) : xHi l yL_paintBlock wsL_paintBlock rm_L_paintBlock D vwCl (xtys cI cJ cZ cA) (wLo cI cJ cZ cA V land there near worn trial fits ways joined ao out) [.ref (V 0), .int p1, .int p2, .int p3, .int p4, .int p5, .ref ao] RX0 [(61, "the block ends before it begins"), (180, "there is no such row or column"), (185, "neither a country nor sea")] (σ := (Nat → Int64) × Int32 × (Nat → Int32) × (Nat → Int64)) (fun u => (wLo cI cJ cZ cA V u.1 u.2.1 u.2.2.1 worn trial fits ways joined ao u.2.2.2)) (fun r u => P r u.1 u.2.1 u.2.2.1 u.2.2.2) 4 24 := by
  refine xHi_of (cc := cL_paintBlock) (maxL := 8) (hh := [(0, 16, 19, 13), (0, 16, 23, 15)]) (by decide) rfl (Nat.le_of_ble_eq_true rfl) ?_
  intro X K hE ht hX
  have K : xk X l rm_L_paintBlock D vwCl (xtys cI cJ cZ cA) cL_paintBlock RL wsL_paintBlock 8 := K
  unfold q_L_paintBlock at h
  refine x_aload (pc := 0) K dL_paintBlock_0 6 rfl ?_
  refine x_iconst (v := 0) (pc := 2) K dL_paintBlock_2 (by decide) ?_
  refine x_aload_n (pc := 3) K dL_paintBlock_3 0 rfl rfl ?_
  refine x_iload_n (pc := 4) K dL_paintBlock_4 1 rfl rfl ?_
  refine x_iload_n (pc := 5) K dL_paintBlock_5 2 rfl rfl ?_
  refine x_iload_n (pc := 6) K dL_paintBlock_6 3 rfl rfl ?_
  refine x_iload (pc := 7) K dL_paintBlock_7 4 rfl ?_
  refine x_iload (pc := 9) K dL_paintBlock_9 5 rfl ?_
  refine x_tcallVi (pc := 11) (n := 5) K hE (by decide) (c_X0_paintBlock l D cI cJ cZ cA hst V p1 p2 p3 p4 p5 land there near worn trial fits ways _ _ h) rfl rfl gL_paintBlock_X0_paintBlock rfl (by decide +kernel) ⟨Nat.le_of_ble_eq_true rfl, Nat.le_of_ble_eq_true rfl⟩ rfl (av := [.int p1, .int p2, .int p3, .int p4, .int p5]) (b := V 0) (ci := 0) (q0 := 0) rfl rfl rfl (Nat.le_of_ble_eq_true rfl) [0, 1, 2, 3, 4, 5, 6] [7, 8, 9, 10, 11, 12, 13, 14, 15, 16, 17, 18] (wr := (wJ cI cA (V 7) (fun k => V (k + 8)) joined ++ [(ao, .inl (cJ, 1, .inr (.inl out)))])) rfl rfl rfl rfl (by decide) dL_paintBlock_11 ⟨Nat.le_of_ble_eq_true rfl, Nat.le_of_ble_eq_true rfl⟩ (fun E hT => ?_) (fun r u9 h => ?_)
  · rcases hT with ⟨rfl, hp⟩ | ⟨rfl, hp⟩
    · refine x_catch K hE ht [] (0, 16, 19, 13) [(0, 16, 23, 15)] rfl (fun z hz => absurd hz List.not_mem_nil) (by decide) (by decide) kL_paintBlock_0 (by decide) (fun q => ?_)
      refine x_astore (lv' := [(0, .ref (V 0)), (1, .int p1), (2, .int p2), (3, .int p3), (4, .int p4), (5, .int p5), (6, .ref ao), (7, .ref q)]) (pc := 19) K dL_paintBlock_19 (by decide) rfl ?_
      refine x_iconst (v := 1) (pc := 21) K dL_paintBlock_21 (by decide) ?_
      refine x_wsub (ws' := (wLo cI cJ cZ cA V land there near worn trial fits ways joined ao out)) [12, 13, 14, 15, 16, 17, 18, 0, 1, 2, 3, 4, 5, 6, 7, 8, 9, 10, 11] rfl rfl ?_
      exact hX 1 (land, there, near, out) _ _ hp dL_paintBlock_22
    · refine x_catch K hE ht [(0, 16, 19, 13)] (0, 16, 23, 15) [] rfl (fun z hz => by obtain rfl := List.mem_singleton.mp hz; exact ⟨by decide, "java/lang/IndexOutOfBoundsException", kL_paintBlock_0, by decide⟩) (by decide) (by decide) kL_paintBlock_1 (by decide) (fun q => ?_)
      refine x_astore (lv' := [(0, .ref (V 0)), (1, .int p1), (2, .int p2), (3, .int p3), (4, .int p4), (5, .int p5), (6, .ref ao), (7, .ref q)]) (pc := 23) K dL_paintBlock_23 (by decide) rfl ?_
      refine x_iconst (v := 2) (pc := 25) K dL_paintBlock_25 (by decide) ?_
      refine x_wsub (ws' := (wLo cI cJ cZ cA V land there near worn trial fits ways joined ao out)) [12, 13, 14, 15, 16, 17, 18, 0, 1, 2, 3, 4, 5, 6, 7, 8, 9, 10, 11] rfl rfl ?_
      exact hX 2 (land, there, near, out) _ _ hp dL_paintBlock_26
  · obtain ⟨o0, o1, o2⟩ := u9
    refine x_wsub (ws' := (wLo cI cJ cZ cA V o0 o1 o2 worn trial fits ways joined ao out)) [12, 13, 14, 15, 16, 17, 18, 0, 1, 2, 3, 4, 5, 6, 7, 8, 9, 10, 11] rfl rfl ?_
    refine x_i2l (pc := 14) K dL_paintBlock_14 ?_
    refine x_last (ws' := (wLo cI cJ cZ cA V o0 o1 o2 worn trial fits ways joined ao (vp_updL out (0 : Int32).toNatClampNeg r.toInt64))) (pc := 15) K 18 1 rfl rfl rfl (by decide) dL_paintBlock_15 ?_
    refine x_goto (pc := 16) K dL_paintBlock_16 (tgt := 27) (by decide) ?_
    refine x_iconst (v := 0) (pc := 27) K dL_paintBlock_27 (by decide) ?_
    exact hX 0 (o0, o1, o2, (vp_updL out (0 : Int32).toNatClampNeg r.toInt64)) _ _ h dL_paintBlock_28
def q_L_countryAt (p1 : Int32) (p2 : Int32) (land : Nat → Int64) (out : Nat → Int64) (P : Int32 → (Nat → Int64) → Prop) : Prop := q_X0_countryAt p1 p2 land (fun (r : Int32)  => P (0 : Int32) (vp_updL out (0 : Int32).toNatClampNeg r.toInt64)) (fun E => (E = "java/lang/IndexOutOfBoundsException" ∧ P (1 : Int32) out))
abbrev rm_L_countryAt : Room := { frames := 10, cells := 1, slots := 6, locals := 200 }
theorem kL_countryAt_0 : Cond.classLink RL 13 "java/lang/IndexOutOfBoundsException" ∈ wsL_countryAt := by decide +kernel
set_option maxHeartbeats 4000000 in
set_option maxRecDepth 100000 in
theorem c_L_countryAt (l : Launch) (D : va_G) (cI cJ cZ cA : ClassId) (hst : l.stackTraces = false) (V : Nat → Nat) (ao : Nat) (p1 : Int32) (p2 : Int32) (land : Nat → Int64) (there : Int32) (near : Nat → Int32) (worn : Nat → Int32) (trial : Nat → Int32) (fits : Nat → Int32) (ways : Nat → Int64) (joined : Nat → Nat → Int32) (out : Nat → Int64) (P : Int32 → (Nat → Int64) → Prop) (h : q_L_countryAt p1 p2 land out P) : xHi l yL_countryAt wsL_countryAt rm_L_countryAt D vwCl (xtys cI cJ cZ cA) (wLo cI cJ cZ cA V land there near worn trial fits ways joined ao out) [.ref (V 0), .int p1, .int p2, .ref ao] RX0 [(180, "there is no such row or column")] (σ := (Nat → Int64)) (fun u => (wLo cI cJ cZ cA V land there near worn trial fits ways joined ao u)) (fun r u => P r u) 1 6 := by
  refine xHi_of (cc := cL_countryAt) (maxL := 5) (hh := [(0, 10, 13, 13)]) (by decide) rfl (Nat.le_of_ble_eq_true rfl) ?_
  intro X K hE ht hX
  have K : xk X l rm_L_countryAt D vwCl (xtys cI cJ cZ cA) cL_countryAt RL wsL_countryAt 5 := K
  unfold q_L_countryAt at h
  refine x_aload_n (pc := 0) K dL_countryAt_0 3 rfl rfl ?_
  refine x_iconst (v := 0) (pc := 1) K dL_countryAt_1 (by decide) ?_
  refine x_aload_n (pc := 2) K dL_countryAt_2 0 rfl rfl ?_
  refine x_iload_n (pc := 3) K dL_countryAt_3 1 rfl rfl ?_
  refine x_iload_n (pc := 4) K dL_countryAt_4 2 rfl rfl ?_
  refine x_tcallVi (pc := 5) (n := 2) K hE (by decide) (c_X0_countryAt l D cI cJ cZ cA hst V p1 p2 land there near worn trial fits ways _ _ h) rfl rfl gL_countryAt_X0_countryAt rfl (by decide +kernel) ⟨Nat.le_of_ble_eq_true rfl, Nat.le_of_ble_eq_true rfl⟩ rfl (av := [.int p1, .int p2]) (b := V 0) (ci := 0) (q0 := 0) rfl rfl rfl (Nat.le_of_ble_eq_true rfl) [0, 1, 2, 3, 4, 5, 6] [7, 8, 9, 10, 11, 12, 13, 14, 15, 16, 17, 18] (wr := (wJ cI cA (V 7) (fun k => V (k + 8)) joined ++ [(ao, .inl (cJ, 1, .inr (.inl out)))])) rfl rfl rfl rfl (by decide) dL_countryAt_5 ⟨Nat.le_of_ble_eq_true rfl, Nat.le_of_ble_eq_true rfl⟩ (fun E hT => ?_) (fun r u9 h => ?_)
  · obtain ⟨rfl, hp⟩ := hT
    refine x_catch K hE ht [] (0, 10, 13, 13) [] rfl (fun z hz => absurd hz List.not_mem_nil) (by decide) (by decide) kL_countryAt_0 (by decide) (fun q => ?_)
    refine x_astore (lv' := [(0, .ref (V 0)), (1, .int p1), (2, .int p2), (3, .ref ao), (4, .ref q)]) (pc := 13) K dL_countryAt_13 (by decide) rfl ?_
    refine x_iconst (v := 1) (pc := 15) K dL_countryAt_15 (by decide) ?_
    refine x_wsub (ws' := (wLo cI cJ cZ cA V land there near worn trial fits ways joined ao out)) [12, 13, 14, 15, 16, 17, 18, 0, 1, 2, 3, 4, 5, 6, 7, 8, 9, 10, 11] rfl rfl ?_
    exact hX 1 out _ _ hp dL_countryAt_16
  · refine x_wsub (ws' := (wLo cI cJ cZ cA V land there near worn trial fits ways joined ao out)) [12, 13, 14, 15, 16, 17, 18, 0, 1, 2, 3, 4, 5, 6, 7, 8, 9, 10, 11] rfl rfl ?_
    refine x_i2l (pc := 8) K dL_countryAt_8 ?_
    refine x_last (ws' := (wLo cI cJ cZ cA V land there near worn trial fits ways joined ao (vp_updL out (0 : Int32).toNatClampNeg r.toInt64))) (pc := 9) K 18 1 rfl rfl rfl (by decide) dL_countryAt_9 ?_
    refine x_goto (pc := 10) K dL_countryAt_10 (tgt := 17) (by decide) ?_
    refine x_iconst (v := 0) (pc := 17) K dL_countryAt_17 (by decide) ?_
    exact hX 0 (vp_updL out (0 : Int32).toNatClampNeg r.toInt64) _ _ h dL_countryAt_18
def q_L_area (p1 : Int32) (land : Nat → Int64) (out : Nat → Int64) (P : Int32 → (Nat → Int64) → Prop) : Prop := q_X0_area p1 land (fun (r : Int32)  => P (0 : Int32) (vp_updL out (0 : Int32).toNatClampNeg r.toInt64)) (fun E => (E = "java/lang/IndexOutOfBoundsException" ∧ P (1 : Int32) out))
abbrev rm_L_area : Room := { frames := 10, cells := 1, slots := 6, locals := 200 }
theorem kL_area_0 : Cond.classLink RL 13 "java/lang/IndexOutOfBoundsException" ∈ wsL_area := by decide +kernel
set_option maxHeartbeats 4000000 in
set_option maxRecDepth 100000 in
theorem c_L_area (l : Launch) (D : va_G) (cI cJ cZ cA : ClassId) (hst : l.stackTraces = false) (V : Nat → Nat) (ao : Nat) (p1 : Int32) (land : Nat → Int64) (there : Int32) (near : Nat → Int32) (worn : Nat → Int32) (trial : Nat → Int32) (fits : Nat → Int32) (ways : Nat → Int64) (joined : Nat → Nat → Int32) (out : Nat → Int64) (P : Int32 → (Nat → Int64) → Prop) (h : q_L_area p1 land out P) : xHi l yL_area wsL_area rm_L_area D vwCl (xtys cI cJ cZ cA) (wLo cI cJ cZ cA V land there near worn trial fits ways joined ao out) [.ref (V 0), .int p1, .ref ao] RX0 [(183, "there is no such country")] (σ := (Nat → Int64)) (fun u => (wLo cI cJ cZ cA V land there near worn trial fits ways joined ao u)) (fun r u => P r u) 1 6 := by
  refine xHi_of (cc := cL_area) (maxL := 4) (hh := [(0, 9, 12, 13)]) (by decide) rfl (Nat.le_of_ble_eq_true rfl) ?_
  intro X K hE ht hX
  have K : xk X l rm_L_area D vwCl (xtys cI cJ cZ cA) cL_area RL wsL_area 4 := K
  unfold q_L_area at h
  refine x_aload_n (pc := 0) K dL_area_0 2 rfl rfl ?_
  refine x_iconst (v := 0) (pc := 1) K dL_area_1 (by decide) ?_
  refine x_aload_n (pc := 2) K dL_area_2 0 rfl rfl ?_
  refine x_iload_n (pc := 3) K dL_area_3 1 rfl rfl ?_
  refine x_tcallVi (pc := 4) (n := 1) K hE (by decide) (c_X0_area l D cI cJ cZ cA hst V p1 land there near worn trial fits ways _ _ h) rfl rfl gL_area_X0_area rfl (by decide +kernel) ⟨Nat.le_of_ble_eq_true rfl, Nat.le_of_ble_eq_true rfl⟩ rfl (av := [.int p1]) (b := V 0) (ci := 0) (q0 := 0) rfl rfl rfl (Nat.le_of_ble_eq_true rfl) [0, 1, 2, 3, 4, 5, 6] [7, 8, 9, 10, 11, 12, 13, 14, 15, 16, 17, 18] (wr := (wJ cI cA (V 7) (fun k => V (k + 8)) joined ++ [(ao, .inl (cJ, 1, .inr (.inl out)))])) rfl rfl rfl rfl (by decide) dL_area_4 ⟨Nat.le_of_ble_eq_true rfl, Nat.le_of_ble_eq_true rfl⟩ (fun E hT => ?_) (fun r u9 h => ?_)
  · obtain ⟨rfl, hp⟩ := hT
    refine x_catch K hE ht [] (0, 9, 12, 13) [] rfl (fun z hz => absurd hz List.not_mem_nil) (by decide) (by decide) kL_area_0 (by decide) (fun q => ?_)
    refine x_astore_n (lv' := [(0, .ref (V 0)), (1, .int p1), (2, .ref ao), (3, .ref q)]) (pc := 12) K dL_area_12 rfl (by decide) rfl ?_
    refine x_iconst (v := 1) (pc := 13) K dL_area_13 (by decide) ?_
    refine x_wsub (ws' := (wLo cI cJ cZ cA V land there near worn trial fits ways joined ao out)) [12, 13, 14, 15, 16, 17, 18, 0, 1, 2, 3, 4, 5, 6, 7, 8, 9, 10, 11] rfl rfl ?_
    exact hX 1 out _ _ hp dL_area_14
  · refine x_wsub (ws' := (wLo cI cJ cZ cA V land there near worn trial fits ways joined ao out)) [12, 13, 14, 15, 16, 17, 18, 0, 1, 2, 3, 4, 5, 6, 7, 8, 9, 10, 11] rfl rfl ?_
    refine x_i2l (pc := 7) K dL_area_7 ?_
    refine x_last (ws' := (wLo cI cJ cZ cA V land there near worn trial fits ways joined ao (vp_updL out (0 : Int32).toNatClampNeg r.toInt64))) (pc := 8) K 18 1 rfl rfl rfl (by decide) dL_area_8 ?_
    refine x_goto (pc := 9) K dL_area_9 (tgt := 15) (by decide) ?_
    refine x_iconst (v := 0) (pc := 15) K dL_area_15 (by decide) ?_
    exact hX 0 (vp_updL out (0 : Int32).toNatClampNeg r.toInt64) _ _ h dL_area_16
def q_L_pieces (p1 : Int32) (land : Nat → Int64) (out : Nat → Int64) (P : Int32 → (Nat → Int64) → Prop) : Prop := q_X0_pieces p1 land (fun (r : Int32)  => P (0 : Int32) (vp_updL out (0 : Int32).toNatClampNeg r.toInt64)) (fun E => (E = "java/lang/IndexOutOfBoundsException" ∧ P (1 : Int32) out))
abbrev rm_L_pieces : Room := { frames := 14, cells := 1, slots := 6, locals := 360 }
theorem kL_pieces_0 : Cond.classLink RL 13 "java/lang/IndexOutOfBoundsException" ∈ wsL_pieces := by decide +kernel
set_option maxHeartbeats 4000000 in
set_option maxRecDepth 100000 in
theorem c_L_pieces (l : Launch) (D : va_G) (cI cJ cZ cA : ClassId) (hst : l.stackTraces = false) (V : Nat → Nat) (ao : Nat) (p1 : Int32) (land : Nat → Int64) (there : Int32) (near : Nat → Int32) (worn : Nat → Int32) (trial : Nat → Int32) (fits : Nat → Int32) (ways : Nat → Int64) (joined : Nat → Nat → Int32) (out : Nat → Int64) (P : Int32 → (Nat → Int64) → Prop) (h : q_L_pieces p1 land out P) : xHi l yL_pieces wsL_pieces rm_L_pieces D vwCl (xtys cI cJ cZ cA) (wLo cI cJ cZ cA V land there near worn trial fits ways joined ao out) [.ref (V 0), .int p1, .ref ao] RX0 [(183, "there is no such country")] (σ := (Nat → Int64)) (fun u => (wLo cI cJ cZ cA V land there near worn trial fits ways joined ao u)) (fun r u => P r u) 1 6 := by
  refine xHi_of (cc := cL_pieces) (maxL := 4) (hh := [(0, 9, 12, 13)]) (by decide) rfl (Nat.le_of_ble_eq_true rfl) ?_
  intro X K hE ht hX
  have K : xk X l rm_L_pieces D vwCl (xtys cI cJ cZ cA) cL_pieces RL wsL_pieces 4 := K
  unfold q_L_pieces at h
  refine x_aload_n (pc := 0) K dL_pieces_0 2 rfl rfl ?_
  refine x_iconst (v := 0) (pc := 1) K dL_pieces_1 (by decide) ?_
  refine x_aload_n (pc := 2) K dL_pieces_2 0 rfl rfl ?_
  refine x_iload_n (pc := 3) K dL_pieces_3 1 rfl rfl ?_
  refine x_tcallVi (pc := 4) (n := 1) K hE (by decide) (c_X0_pieces l D cI cJ cZ cA hst V p1 land there near worn trial fits ways _ _ h) rfl rfl gL_pieces_X0_pieces rfl (by decide +kernel) ⟨Nat.le_of_ble_eq_true rfl, Nat.le_of_ble_eq_true rfl⟩ rfl (av := [.int p1]) (b := V 0) (ci := 0) (q0 := 0) rfl rfl rfl (Nat.le_of_ble_eq_true rfl) [0, 1, 2, 3, 4, 5, 6] [7, 8, 9, 10, 11, 12, 13, 14, 15, 16, 17, 18] (wr := (wJ cI cA (V 7) (fun k => V (k + 8)) joined ++ [(ao, .inl (cJ, 1, .inr (.inl out)))])) rfl rfl rfl rfl (by decide) dL_pieces_4 ⟨Nat.le_of_ble_eq_true rfl, Nat.le_of_ble_eq_true rfl⟩ (fun E hT => ?_) (fun r u9 h => ?_)
  · obtain ⟨rfl, hp⟩ := hT
    refine x_catch K hE ht [] (0, 9, 12, 13) [] rfl (fun z hz => absurd hz List.not_mem_nil) (by decide) (by decide) kL_pieces_0 (by decide) (fun q => ?_)
    refine x_astore_n (lv' := [(0, .ref (V 0)), (1, .int p1), (2, .ref ao), (3, .ref q)]) (pc := 12) K dL_pieces_12 rfl (by decide) rfl ?_
    refine x_iconst (v := 1) (pc := 13) K dL_pieces_13 (by decide) ?_
    refine x_wsub (ws' := (wLo cI cJ cZ cA V land there near worn trial fits ways joined ao out)) [12, 13, 14, 15, 16, 17, 18, 0, 1, 2, 3, 4, 5, 6, 7, 8, 9, 10, 11] rfl rfl ?_
    exact hX 1 out _ _ hp dL_pieces_14
  · refine x_wsub (ws' := (wLo cI cJ cZ cA V land there near worn trial fits ways joined ao out)) [12, 13, 14, 15, 16, 17, 18, 0, 1, 2, 3, 4, 5, 6, 7, 8, 9, 10, 11] rfl rfl ?_
    refine x_i2l (pc := 7) K dL_pieces_7 ?_
    refine x_last (ws' := (wLo cI cJ cZ cA V land there near worn trial fits ways joined ao (vp_updL out (0 : Int32).toNatClampNeg r.toInt64))) (pc := 8) K 18 1 rfl rfl rfl (by decide) dL_pieces_8 ?_
    refine x_goto (pc := 9) K dL_pieces_9 (tgt := 15) (by decide) ?_
    refine x_iconst (v := 0) (pc := 15) K dL_pieces_15 (by decide) ?_
    exact hX 0 (vp_updL out (0 : Int32).toNatClampNeg r.toInt64) _ _ h dL_pieces_16
def q_L_largestPiece (p1 : Int32) (land : Nat → Int64) (out : Nat → Int64) (P : Int32 → (Nat → Int64) → Prop) : Prop := q_X0_largestPiece p1 land (fun (r : Int32)  => P (0 : Int32) (vp_updL out (0 : Int32).toNatClampNeg r.toInt64)) (fun E => (E = "java/lang/IndexOutOfBoundsException" ∧ P (1 : Int32) out))
abbrev rm_L_largestPiece : Room := { frames := 13, cells := 1, slots := 6, locals := 320 }
theorem kL_largestPiece_0 : Cond.classLink RL 13 "java/lang/IndexOutOfBoundsException" ∈ wsL_largestPiece := by decide +kernel
set_option maxHeartbeats 4000000 in
set_option maxRecDepth 100000 in
theorem c_L_largestPiece (l : Launch) (D : va_G) (cI cJ cZ cA : ClassId) (hst : l.stackTraces = false) (V : Nat → Nat) (ao : Nat) (p1 : Int32) (land : Nat → Int64) (there : Int32) (near : Nat → Int32) (worn : Nat → Int32) (trial : Nat → Int32) (fits : Nat → Int32) (ways : Nat → Int64) (joined : Nat → Nat → Int32) (out : Nat → Int64) (P : Int32 → (Nat → Int64) → Prop) (h : q_L_largestPiece p1 land out P) : xHi l yL_largestPiece wsL_largestPiece rm_L_largestPiece D vwCl (xtys cI cJ cZ cA) (wLo cI cJ cZ cA V land there near worn trial fits ways joined ao out) [.ref (V 0), .int p1, .ref ao] RX0 [(183, "there is no such country")] (σ := (Nat → Int64)) (fun u => (wLo cI cJ cZ cA V land there near worn trial fits ways joined ao u)) (fun r u => P r u) 1 6 := by
  refine xHi_of (cc := cL_largestPiece) (maxL := 4) (hh := [(0, 9, 12, 13)]) (by decide) rfl (Nat.le_of_ble_eq_true rfl) ?_
  intro X K hE ht hX
  have K : xk X l rm_L_largestPiece D vwCl (xtys cI cJ cZ cA) cL_largestPiece RL wsL_largestPiece 4 := K
  unfold q_L_largestPiece at h
  refine x_aload_n (pc := 0) K dL_largestPiece_0 2 rfl rfl ?_
  refine x_iconst (v := 0) (pc := 1) K dL_largestPiece_1 (by decide) ?_
  refine x_aload_n (pc := 2) K dL_largestPiece_2 0 rfl rfl ?_
  refine x_iload_n (pc := 3) K dL_largestPiece_3 1 rfl rfl ?_
  refine x_tcallVi (pc := 4) (n := 1) K hE (by decide) (c_X0_largestPiece l D cI cJ cZ cA hst V p1 land there near worn trial fits ways _ _ h) rfl rfl gL_largestPiece_X0_largestPiece rfl (by decide +kernel) ⟨Nat.le_of_ble_eq_true rfl, Nat.le_of_ble_eq_true rfl⟩ rfl (av := [.int p1]) (b := V 0) (ci := 0) (q0 := 0) rfl rfl rfl (Nat.le_of_ble_eq_true rfl) [0, 1, 2, 3, 4, 5, 6] [7, 8, 9, 10, 11, 12, 13, 14, 15, 16, 17, 18] (wr := (wJ cI cA (V 7) (fun k => V (k + 8)) joined ++ [(ao, .inl (cJ, 1, .inr (.inl out)))])) rfl rfl rfl rfl (by decide) dL_largestPiece_4 ⟨Nat.le_of_ble_eq_true rfl, Nat.le_of_ble_eq_true rfl⟩ (fun E hT => ?_) (fun r u9 h => ?_)
  · obtain ⟨rfl, hp⟩ := hT
    refine x_catch K hE ht [] (0, 9, 12, 13) [] rfl (fun z hz => absurd hz List.not_mem_nil) (by decide) (by decide) kL_largestPiece_0 (by decide) (fun q => ?_)
    refine x_astore_n (lv' := [(0, .ref (V 0)), (1, .int p1), (2, .ref ao), (3, .ref q)]) (pc := 12) K dL_largestPiece_12 rfl (by decide) rfl ?_
    refine x_iconst (v := 1) (pc := 13) K dL_largestPiece_13 (by decide) ?_
    refine x_wsub (ws' := (wLo cI cJ cZ cA V land there near worn trial fits ways joined ao out)) [12, 13, 14, 15, 16, 17, 18, 0, 1, 2, 3, 4, 5, 6, 7, 8, 9, 10, 11] rfl rfl ?_
    exact hX 1 out _ _ hp dL_largestPiece_14
  · refine x_wsub (ws' := (wLo cI cJ cZ cA V land there near worn trial fits ways joined ao out)) [12, 13, 14, 15, 16, 17, 18, 0, 1, 2, 3, 4, 5, 6, 7, 8, 9, 10, 11] rfl rfl ?_
    refine x_i2l (pc := 7) K dL_largestPiece_7 ?_
    refine x_last (ws' := (wLo cI cJ cZ cA V land there near worn trial fits ways joined ao (vp_updL out (0 : Int32).toNatClampNeg r.toInt64))) (pc := 8) K 18 1 rfl rfl rfl (by decide) dL_largestPiece_8 ?_
    refine x_goto (pc := 9) K dL_largestPiece_9 (tgt := 15) (by decide) ?_
    refine x_iconst (v := 0) (pc := 15) K dL_largestPiece_15 (by decide) ?_
    exact hX 0 (vp_updL out (0 : Int32).toNatClampNeg r.toInt64) _ _ h dL_largestPiece_16
def q_L_neighbours (p1 : Int32) (near : Nat → Int32) (out : Nat → Int64) (P : Int32 → (Nat → Int64) → Prop) : Prop := q_X0_neighbours p1 near (fun (r : Int32)  => P (0 : Int32) (vp_updL out (0 : Int32).toNatClampNeg r.toInt64)) (fun E => (E = "java/lang/IndexOutOfBoundsException" ∧ P (1 : Int32) out))
abbrev rm_L_neighbours : Room := { frames := 10, cells := 1, slots := 6, locals := 200 }
theorem kL_neighbours_0 : Cond.classLink RL 13 "java/lang/IndexOutOfBoundsException" ∈ wsL_neighbours := by decide +kernel
set_option maxHeartbeats 4000000 in
set_option maxRecDepth 100000 in
theorem c_L_neighbours (l : Launch) (D : va_G) (cI cJ cZ cA : ClassId) (hst : l.stackTraces = false) (V : Nat → Nat) (ao : Nat) (p1 : Int32) (land : Nat → Int64) (there : Int32) (near : Nat → Int32) (worn : Nat → Int32) (trial : Nat → Int32) (fits : Nat → Int32) (ways : Nat → Int64) (joined : Nat → Nat → Int32) (out : Nat → Int64) (P : Int32 → (Nat → Int64) → Prop) (h : q_L_neighbours p1 near out P) : xHi l yL_neighbours wsL_neighbours rm_L_neighbours D vwCl (xtys cI cJ cZ cA) (wLo cI cJ cZ cA V land there near worn trial fits ways joined ao out) [.ref (V 0), .int p1, .ref ao] RX0 [(183, "there is no such country")] (σ := (Nat → Int64)) (fun u => (wLo cI cJ cZ cA V land there near worn trial fits ways joined ao u)) (fun r u => P r u) 1 6 := by
  refine xHi_of (cc := cL_neighbours) (maxL := 4) (hh := [(0, 9, 12, 13)]) (by decide) rfl (Nat.le_of_ble_eq_true rfl) ?_
  intro X K hE ht hX
  have K : xk X l rm_L_neighbours D vwCl (xtys cI cJ cZ cA) cL_neighbours RL wsL_neighbours 4 := K
  unfold q_L_neighbours at h
  refine x_aload_n (pc := 0) K dL_neighbours_0 2 rfl rfl ?_
  refine x_iconst (v := 0) (pc := 1) K dL_neighbours_1 (by decide) ?_
  refine x_aload_n (pc := 2) K dL_neighbours_2 0 rfl rfl ?_
  refine x_iload_n (pc := 3) K dL_neighbours_3 1 rfl rfl ?_
  refine x_tcallVi (pc := 4) (n := 1) K hE (by decide) (c_X0_neighbours l D cI cJ cZ cA hst V p1 land there near worn trial fits ways _ _ h) rfl rfl gL_neighbours_X0_neighbours rfl (by decide +kernel) ⟨Nat.le_of_ble_eq_true rfl, Nat.le_of_ble_eq_true rfl⟩ rfl (av := [.int p1]) (b := V 0) (ci := 0) (q0 := 0) rfl rfl rfl (Nat.le_of_ble_eq_true rfl) [0, 1, 2, 3, 4, 5, 6] [7, 8, 9, 10, 11, 12, 13, 14, 15, 16, 17, 18] (wr := (wJ cI cA (V 7) (fun k => V (k + 8)) joined ++ [(ao, .inl (cJ, 1, .inr (.inl out)))])) rfl rfl rfl rfl (by decide) dL_neighbours_4 ⟨Nat.le_of_ble_eq_true rfl, Nat.le_of_ble_eq_true rfl⟩ (fun E hT => ?_) (fun r u9 h => ?_)
  · obtain ⟨rfl, hp⟩ := hT
    refine x_catch K hE ht [] (0, 9, 12, 13) [] rfl (fun z hz => absurd hz List.not_mem_nil) (by decide) (by decide) kL_neighbours_0 (by decide) (fun q => ?_)
    refine x_astore_n (lv' := [(0, .ref (V 0)), (1, .int p1), (2, .ref ao), (3, .ref q)]) (pc := 12) K dL_neighbours_12 rfl (by decide) rfl ?_
    refine x_iconst (v := 1) (pc := 13) K dL_neighbours_13 (by decide) ?_
    refine x_wsub (ws' := (wLo cI cJ cZ cA V land there near worn trial fits ways joined ao out)) [12, 13, 14, 15, 16, 17, 18, 0, 1, 2, 3, 4, 5, 6, 7, 8, 9, 10, 11] rfl rfl ?_
    exact hX 1 out _ _ hp dL_neighbours_14
  · refine x_wsub (ws' := (wLo cI cJ cZ cA V land there near worn trial fits ways joined ao out)) [12, 13, 14, 15, 16, 17, 18, 0, 1, 2, 3, 4, 5, 6, 7, 8, 9, 10, 11] rfl rfl ?_
    refine x_i2l (pc := 7) K dL_neighbours_7 ?_
    refine x_last (ws' := (wLo cI cJ cZ cA V land there near worn trial fits ways joined ao (vp_updL out (0 : Int32).toNatClampNeg r.toInt64))) (pc := 8) K 18 1 rfl rfl rfl (by decide) dL_neighbours_8 ?_
    refine x_goto (pc := 9) K dL_neighbours_9 (tgt := 15) (by decide) ?_
    refine x_iconst (v := 0) (pc := 15) K dL_neighbours_15 (by decide) ?_
    exact hX 0 (vp_updL out (0 : Int32).toNatClampNeg r.toInt64) _ _ h dL_neighbours_16
def q_L_border (p1 : Int32) (p2 : Int32) (land : Nat → Int64) (out : Nat → Int64) (P : Int32 → (Nat → Int64) → Prop) : Prop := q_X0_border p1 p2 land (fun (r : Int32)  => P (0 : Int32) (vp_updL out (0 : Int32).toNatClampNeg r.toInt64)) (fun E => (E = "java/lang/IndexOutOfBoundsException" ∧ P (1 : Int32) out))
abbrev rm_L_border : Room := { frames := 10, cells := 2, slots := 12, locals := 200 }
theorem kL_border_0 : Cond.classLink RL 13 "java/lang/IndexOutOfBoundsException" ∈ wsL_border := by decide +kernel
set_option maxHeartbeats 4000000 in
set_option maxRecDepth 100000 in
theorem c_L_border (l : Launch) (D : va_G) (cI cJ cZ cA : ClassId) (hst : l.stackTraces = false) (V : Nat → Nat) (ao : Nat) (p1 : Int32) (p2 : Int32) (land : Nat → Int64) (there : Int32) (near : Nat → Int32) (worn : Nat → Int32) (trial : Nat → Int32) (fits : Nat → Int32) (ways : Nat → Int64) (joined : Nat → Nat → Int32) (out : Nat → Int64) (P : Int32 → (Nat → Int64) → Prop) (h : q_L_border p1 p2 land out P) : xHi l yL_border wsL_border rm_L_border D vwCl (xtys cI cJ cZ cA) (wLo cI cJ cZ cA V land there near worn trial fits ways joined ao out) [.ref (V 0), .int p1, .int p2, .ref ao] RX0 [(183, "there is no such country")] (σ := (Nat → Int64)) (fun u => (wLo cI cJ cZ cA V land there near worn trial fits ways joined ao u)) (fun r u => P r u) 2 12 := by
  refine xHi_of (cc := cL_border) (maxL := 5) (hh := [(0, 10, 13, 13)]) (by decide) rfl (Nat.le_of_ble_eq_true rfl) ?_
  intro X K hE ht hX
  have K : xk X l rm_L_border D vwCl (xtys cI cJ cZ cA) cL_border RL wsL_border 5 := K
  unfold q_L_border at h
  refine x_aload_n (pc := 0) K dL_border_0 3 rfl rfl ?_
  refine x_iconst (v := 0) (pc := 1) K dL_border_1 (by decide) ?_
  refine x_aload_n (pc := 2) K dL_border_2 0 rfl rfl ?_
  refine x_iload_n (pc := 3) K dL_border_3 1 rfl rfl ?_
  refine x_iload_n (pc := 4) K dL_border_4 2 rfl rfl ?_
  refine x_tcallVi (pc := 5) (n := 2) K hE (by decide) (c_X0_border l D cI cJ cZ cA hst V p1 p2 land there near worn trial fits ways _ _ h) rfl rfl gL_border_X0_border rfl (by decide +kernel) ⟨Nat.le_of_ble_eq_true rfl, Nat.le_of_ble_eq_true rfl⟩ rfl (av := [.int p1, .int p2]) (b := V 0) (ci := 0) (q0 := 0) rfl rfl rfl (Nat.le_of_ble_eq_true rfl) [0, 1, 2, 3, 4, 5, 6] [7, 8, 9, 10, 11, 12, 13, 14, 15, 16, 17, 18] (wr := (wJ cI cA (V 7) (fun k => V (k + 8)) joined ++ [(ao, .inl (cJ, 1, .inr (.inl out)))])) rfl rfl rfl rfl (by decide) dL_border_5 ⟨Nat.le_of_ble_eq_true rfl, Nat.le_of_ble_eq_true rfl⟩ (fun E hT => ?_) (fun r u9 h => ?_)
  · obtain ⟨rfl, hp⟩ := hT
    refine x_catch K hE ht [] (0, 10, 13, 13) [] rfl (fun z hz => absurd hz List.not_mem_nil) (by decide) (by decide) kL_border_0 (by decide) (fun q => ?_)
    refine x_astore (lv' := [(0, .ref (V 0)), (1, .int p1), (2, .int p2), (3, .ref ao), (4, .ref q)]) (pc := 13) K dL_border_13 (by decide) rfl ?_
    refine x_iconst (v := 1) (pc := 15) K dL_border_15 (by decide) ?_
    refine x_wsub (ws' := (wLo cI cJ cZ cA V land there near worn trial fits ways joined ao out)) [12, 13, 14, 15, 16, 17, 18, 0, 1, 2, 3, 4, 5, 6, 7, 8, 9, 10, 11] rfl rfl ?_
    exact hX 1 out _ _ hp dL_border_16
  · refine x_wsub (ws' := (wLo cI cJ cZ cA V land there near worn trial fits ways joined ao out)) [12, 13, 14, 15, 16, 17, 18, 0, 1, 2, 3, 4, 5, 6, 7, 8, 9, 10, 11] rfl rfl ?_
    refine x_i2l (pc := 8) K dL_border_8 ?_
    refine x_last (ws' := (wLo cI cJ cZ cA V land there near worn trial fits ways joined ao (vp_updL out (0 : Int32).toNatClampNeg r.toInt64))) (pc := 9) K 18 1 rfl rfl rfl (by decide) dL_border_9 ?_
    refine x_goto (pc := 10) K dL_border_10 (tgt := 17) (by decide) ?_
    refine x_iconst (v := 0) (pc := 17) K dL_border_17 (by decide) ?_
    exact hX 0 (vp_updL out (0 : Int32).toNatClampNeg r.toInt64) _ _ h dL_border_18
def q_L_enclosed (p1 : Int32) (land : Nat → Int64) (out : Nat → Int64) (P : Int32 → (Nat → Int64) → Prop) : Prop := q_X0_enclosed p1 land (fun (r : Int32)  => P (0 : Int32) (vp_updL out (0 : Int32).toNatClampNeg r.toInt64)) (fun E => (E = "java/lang/IndexOutOfBoundsException" ∧ P (1 : Int32) out))
abbrev rm_L_enclosed : Room := { frames := 12, cells := 1, slots := 6, locals := 280 }
theorem kL_enclosed_0 : Cond.classLink RL 13 "java/lang/IndexOutOfBoundsException" ∈ wsL_enclosed := by decide +kernel
set_option maxHeartbeats 4000000 in
set_option maxRecDepth 100000 in
theorem c_L_enclosed (l : Launch) (D : va_G) (cI cJ cZ cA : ClassId) (hst : l.stackTraces = false) (V : Nat → Nat) (ao : Nat) (p1 : Int32) (land : Nat → Int64) (there : Int32) (near : Nat → Int32) (worn : Nat → Int32) (trial : Nat → Int32) (fits : Nat → Int32) (ways : Nat → Int64) (joined : Nat → Nat → Int32) (out : Nat → Int64) (P : Int32 → (Nat → Int64) → Prop) (h : q_L_enclosed p1 land out P) : xHi l yL_enclosed wsL_enclosed rm_L_enclosed D vwCl (xtys cI cJ cZ cA) (wLo cI cJ cZ cA V land there near worn trial fits ways joined ao out) [.ref (V 0), .int p1, .ref ao] RX0 [(183, "there is no such country")] (σ := (Nat → Int64)) (fun u => (wLo cI cJ cZ cA V land there near worn trial fits ways joined ao u)) (fun r u => P r u) 1 6 := by
  refine xHi_of (cc := cL_enclosed) (maxL := 4) (hh := [(0, 9, 12, 13)]) (by decide) rfl (Nat.le_of_ble_eq_true rfl) ?_
  intro X K hE ht hX
  have K : xk X l rm_L_enclosed D vwCl (xtys cI cJ cZ cA) cL_enclosed RL wsL_enclosed 4 := K
  unfold q_L_enclosed at h
  refine x_aload_n (pc := 0) K dL_enclosed_0 2 rfl rfl ?_
  refine x_iconst (v := 0) (pc := 1) K dL_enclosed_1 (by decide) ?_
  refine x_aload_n (pc := 2) K dL_enclosed_2 0 rfl rfl ?_
  refine x_iload_n (pc := 3) K dL_enclosed_3 1 rfl rfl ?_
  refine x_tcallVi (pc := 4) (n := 1) K hE (by decide) (c_X0_enclosed l D cI cJ cZ cA hst V p1 land there near worn trial fits ways _ _ h) rfl rfl gL_enclosed_X0_enclosed rfl (by decide +kernel) ⟨Nat.le_of_ble_eq_true rfl, Nat.le_of_ble_eq_true rfl⟩ rfl (av := [.int p1]) (b := V 0) (ci := 0) (q0 := 0) rfl rfl rfl (Nat.le_of_ble_eq_true rfl) [0, 1, 2, 3, 4, 5, 6] [7, 8, 9, 10, 11, 12, 13, 14, 15, 16, 17, 18] (wr := (wJ cI cA (V 7) (fun k => V (k + 8)) joined ++ [(ao, .inl (cJ, 1, .inr (.inl out)))])) rfl rfl rfl rfl (by decide) dL_enclosed_4 ⟨Nat.le_of_ble_eq_true rfl, Nat.le_of_ble_eq_true rfl⟩ (fun E hT => ?_) (fun r u9 h => ?_)
  · obtain ⟨rfl, hp⟩ := hT
    refine x_catch K hE ht [] (0, 9, 12, 13) [] rfl (fun z hz => absurd hz List.not_mem_nil) (by decide) (by decide) kL_enclosed_0 (by decide) (fun q => ?_)
    refine x_astore_n (lv' := [(0, .ref (V 0)), (1, .int p1), (2, .ref ao), (3, .ref q)]) (pc := 12) K dL_enclosed_12 rfl (by decide) rfl ?_
    refine x_iconst (v := 1) (pc := 13) K dL_enclosed_13 (by decide) ?_
    refine x_wsub (ws' := (wLo cI cJ cZ cA V land there near worn trial fits ways joined ao out)) [12, 13, 14, 15, 16, 17, 18, 0, 1, 2, 3, 4, 5, 6, 7, 8, 9, 10, 11] rfl rfl ?_
    exact hX 1 out _ _ hp dL_enclosed_14
  · refine x_wsub (ws' := (wLo cI cJ cZ cA V land there near worn trial fits ways joined ao out)) [12, 13, 14, 15, 16, 17, 18, 0, 1, 2, 3, 4, 5, 6, 7, 8, 9, 10, 11] rfl rfl ?_
    refine x_i2l (pc := 7) K dL_enclosed_7 ?_
    refine x_last (ws' := (wLo cI cJ cZ cA V land there near worn trial fits ways joined ao (vp_updL out (0 : Int32).toNatClampNeg r.toInt64))) (pc := 8) K 18 1 rfl rfl rfl (by decide) dL_enclosed_8 ?_
    refine x_goto (pc := 9) K dL_enclosed_9 (tgt := 15) (by decide) ?_
    refine x_iconst (v := 0) (pc := 15) K dL_enclosed_15 (by decide) ?_
    exact hX 0 (vp_updL out (0 : Int32).toNatClampNeg r.toInt64) _ _ h dL_enclosed_16
def q_L_tint (p1 : Int32) (p2 : Int32) (worn : Nat → Int32) (out : Nat → Int64) (P : Int32 → (Nat → Int32) → (Nat → Int64) → Prop) : Prop := q_X0_tint p1 p2 worn (fun (r : Int32) (o0 : Nat → Int32) => P (0 : Int32) o0 (vp_updL out (0 : Int32).toNatClampNeg r.toInt64)) (fun E => (E = "java/lang/IndexOutOfBoundsException" ∧ P (1 : Int32) worn out) ∨ (E = "java/lang/IllegalArgumentException" ∧ P (2 : Int32) worn out))
abbrev rm_L_tint : Room := { frames := 10, cells := 2, slots := 12, locals := 200 }
theorem kL_tint_0 : Cond.classLink RL 13 "java/lang/IndexOutOfBoundsException" ∈ wsL_tint := by decide +kernel
theorem kL_tint_1 : Cond.classLink RL 15 "java/lang/IllegalArgumentException" ∈ wsL_tint := by decide +kernel
set_option maxHeartbeats 4000000 in
set_option maxRecDepth 100000 in
theorem c_L_tint (l : Launch) (D : va_G) (cI cJ cZ cA : ClassId) (hst : l.stackTraces = false) (V : Nat → Nat) (ao : Nat) (p1 : Int32) (p2 : Int32) (land : Nat → Int64) (there : Int32) (near : Nat → Int32) (worn : Nat → Int32) (trial : Nat → Int32) (fits : Nat → Int32) (ways : Nat → Int64) (joined : Nat → Nat → Int32) (out : Nat → Int64) (P : Int32 → (Nat → Int32) → (Nat → Int64) → Prop) (h : q_L_tint p1 p2 worn out P) : xHi l yL_tint wsL_tint rm_L_tint D vwCl (xtys cI cJ cZ cA) (wLo cI cJ cZ cA V land there near worn trial fits ways joined ao out) [.ref (V 0), .int p1, .int p2, .ref ao] RX0 [(183, "there is no such country"), (187, "there is no such tint")] (σ := (Nat → Int32) × (Nat → Int64)) (fun u => (wLo cI cJ cZ cA V land there near u.1 trial fits ways joined ao u.2)) (fun r u => P r u.1 u.2) 2 12 := by
  refine xHi_of (cc := cL_tint) (maxL := 5) (hh := [(0, 10, 13, 13), (0, 10, 17, 15)]) (by decide) rfl (Nat.le_of_ble_eq_true rfl) ?_
  intro X K hE ht hX
  have K : xk X l rm_L_tint D vwCl (xtys cI cJ cZ cA) cL_tint RL wsL_tint 5 := K
  unfold q_L_tint at h
  refine x_aload_n (pc := 0) K dL_tint_0 3 rfl rfl ?_
  refine x_iconst (v := 0) (pc := 1) K dL_tint_1 (by decide) ?_
  refine x_aload_n (pc := 2) K dL_tint_2 0 rfl rfl ?_
  refine x_iload_n (pc := 3) K dL_tint_3 1 rfl rfl ?_
  refine x_iload_n (pc := 4) K dL_tint_4 2 rfl rfl ?_
  refine x_tcallVi (pc := 5) (n := 2) K hE (by decide) (c_X0_tint l D cI cJ cZ cA hst V p1 p2 land there near worn trial fits ways _ _ h) rfl rfl gL_tint_X0_tint rfl (by decide +kernel) ⟨Nat.le_of_ble_eq_true rfl, Nat.le_of_ble_eq_true rfl⟩ rfl (av := [.int p1, .int p2]) (b := V 0) (ci := 0) (q0 := 0) rfl rfl rfl (Nat.le_of_ble_eq_true rfl) [0, 1, 2, 3, 4, 5, 6] [7, 8, 9, 10, 11, 12, 13, 14, 15, 16, 17, 18] (wr := (wJ cI cA (V 7) (fun k => V (k + 8)) joined ++ [(ao, .inl (cJ, 1, .inr (.inl out)))])) rfl rfl rfl rfl (by decide) dL_tint_5 ⟨Nat.le_of_ble_eq_true rfl, Nat.le_of_ble_eq_true rfl⟩ (fun E hT => ?_) (fun r o0 h => ?_)
  · rcases hT with ⟨rfl, hp⟩ | ⟨rfl, hp⟩
    · refine x_catch K hE ht [] (0, 10, 13, 13) [(0, 10, 17, 15)] rfl (fun z hz => absurd hz List.not_mem_nil) (by decide) (by decide) kL_tint_0 (by decide) (fun q => ?_)
      refine x_astore (lv' := [(0, .ref (V 0)), (1, .int p1), (2, .int p2), (3, .ref ao), (4, .ref q)]) (pc := 13) K dL_tint_13 (by decide) rfl ?_
      refine x_iconst (v := 1) (pc := 15) K dL_tint_15 (by decide) ?_
      refine x_wsub (ws' := (wLo cI cJ cZ cA V land there near worn trial fits ways joined ao out)) [12, 13, 14, 15, 16, 17, 18, 0, 1, 2, 3, 4, 5, 6, 7, 8, 9, 10, 11] rfl rfl ?_
      exact hX 1 (worn, out) _ _ hp dL_tint_16
    · refine x_catch K hE ht [(0, 10, 13, 13)] (0, 10, 17, 15) [] rfl (fun z hz => by obtain rfl := List.mem_singleton.mp hz; exact ⟨by decide, "java/lang/IndexOutOfBoundsException", kL_tint_0, by decide⟩) (by decide) (by decide) kL_tint_1 (by decide) (fun q => ?_)
      refine x_astore (lv' := [(0, .ref (V 0)), (1, .int p1), (2, .int p2), (3, .ref ao), (4, .ref q)]) (pc := 17) K dL_tint_17 (by decide) rfl ?_
      refine x_iconst (v := 2) (pc := 19) K dL_tint_19 (by decide) ?_
      refine x_wsub (ws' := (wLo cI cJ cZ cA V land there near worn trial fits ways joined ao out)) [12, 13, 14, 15, 16, 17, 18, 0, 1, 2, 3, 4, 5, 6, 7, 8, 9, 10, 11] rfl rfl ?_
      exact hX 2 (worn, out) _ _ hp dL_tint_20
  · refine x_wsub (ws' := (wLo cI cJ cZ cA V land there near o0 trial fits ways joined ao out)) [12, 13, 14, 15, 16, 17, 18, 0, 1, 2, 3, 4, 5, 6, 7, 8, 9, 10, 11] rfl rfl ?_
    refine x_i2l (pc := 8) K dL_tint_8 ?_
    refine x_last (ws' := (wLo cI cJ cZ cA V land there near o0 trial fits ways joined ao (vp_updL out (0 : Int32).toNatClampNeg r.toInt64))) (pc := 9) K 18 1 rfl rfl rfl (by decide) dL_tint_9 ?_
    refine x_goto (pc := 10) K dL_tint_10 (tgt := 21) (by decide) ?_
    refine x_iconst (v := 0) (pc := 21) K dL_tint_21 (by decide) ?_
    exact hX 0 (o0, (vp_updL out (0 : Int32).toNatClampNeg r.toInt64)) _ _ h dL_tint_22
def q_L_tintOf (p1 : Int32) (worn : Nat → Int32) (out : Nat → Int64) (P : Int32 → (Nat → Int64) → Prop) : Prop := q_X0_tintOf p1 worn (fun (r : Int32)  => P (0 : Int32) (vp_updL out (0 : Int32).toNatClampNeg r.toInt64)) (fun E => (E = "java/lang/IndexOutOfBoundsException" ∧ P (1 : Int32) out))
abbrev rm_L_tintOf : Room := { frames := 10, cells := 1, slots := 6, locals := 200 }
theorem kL_tintOf_0 : Cond.classLink RL 13 "java/lang/IndexOutOfBoundsException" ∈ wsL_tintOf := by decide +kernel
set_option maxHeartbeats 4000000 in
set_option maxRecDepth 100000 in
theorem c_L_tintOf (l : Launch) (D : va_G) (cI cJ cZ cA : ClassId) (hst : l.stackTraces = false) (V : Nat → Nat) (ao : Nat) (p1 : Int32) (land : Nat → Int64) (there : Int32) (near : Nat → Int32) (worn : Nat → Int32) (trial : Nat → Int32) (fits : Nat → Int32) (ways : Nat → Int64) (joined : Nat → Nat → Int32) (out : Nat → Int64) (P : Int32 → (Nat → Int64) → Prop) (h : q_L_tintOf p1 worn out P) : xHi l yL_tintOf wsL_tintOf rm_L_tintOf D vwCl (xtys cI cJ cZ cA) (wLo cI cJ cZ cA V land there near worn trial fits ways joined ao out) [.ref (V 0), .int p1, .ref ao] RX0 [(183, "there is no such country")] (σ := (Nat → Int64)) (fun u => (wLo cI cJ cZ cA V land there near worn trial fits ways joined ao u)) (fun r u => P r u) 1 6 := by
  refine xHi_of (cc := cL_tintOf) (maxL := 4) (hh := [(0, 9, 12, 13)]) (by decide) rfl (Nat.le_of_ble_eq_true rfl) ?_
  intro X K hE ht hX
  have K : xk X l rm_L_tintOf D vwCl (xtys cI cJ cZ cA) cL_tintOf RL wsL_tintOf 4 := K
  unfold q_L_tintOf at h
  refine x_aload_n (pc := 0) K dL_tintOf_0 2 rfl rfl ?_
  refine x_iconst (v := 0) (pc := 1) K dL_tintOf_1 (by decide) ?_
  refine x_aload_n (pc := 2) K dL_tintOf_2 0 rfl rfl ?_
  refine x_iload_n (pc := 3) K dL_tintOf_3 1 rfl rfl ?_
  refine x_tcallVi (pc := 4) (n := 1) K hE (by decide) (c_X0_tintOf l D cI cJ cZ cA hst V p1 land there near worn trial fits ways _ _ h) rfl rfl gL_tintOf_X0_tintOf rfl (by decide +kernel) ⟨Nat.le_of_ble_eq_true rfl, Nat.le_of_ble_eq_true rfl⟩ rfl (av := [.int p1]) (b := V 0) (ci := 0) (q0 := 0) rfl rfl rfl (Nat.le_of_ble_eq_true rfl) [0, 1, 2, 3, 4, 5, 6] [7, 8, 9, 10, 11, 12, 13, 14, 15, 16, 17, 18] (wr := (wJ cI cA (V 7) (fun k => V (k + 8)) joined ++ [(ao, .inl (cJ, 1, .inr (.inl out)))])) rfl rfl rfl rfl (by decide) dL_tintOf_4 ⟨Nat.le_of_ble_eq_true rfl, Nat.le_of_ble_eq_true rfl⟩ (fun E hT => ?_) (fun r u9 h => ?_)
  · obtain ⟨rfl, hp⟩ := hT
    refine x_catch K hE ht [] (0, 9, 12, 13) [] rfl (fun z hz => absurd hz List.not_mem_nil) (by decide) (by decide) kL_tintOf_0 (by decide) (fun q => ?_)
    refine x_astore_n (lv' := [(0, .ref (V 0)), (1, .int p1), (2, .ref ao), (3, .ref q)]) (pc := 12) K dL_tintOf_12 rfl (by decide) rfl ?_
    refine x_iconst (v := 1) (pc := 13) K dL_tintOf_13 (by decide) ?_
    refine x_wsub (ws' := (wLo cI cJ cZ cA V land there near worn trial fits ways joined ao out)) [12, 13, 14, 15, 16, 17, 18, 0, 1, 2, 3, 4, 5, 6, 7, 8, 9, 10, 11] rfl rfl ?_
    exact hX 1 out _ _ hp dL_tintOf_14
  · refine x_wsub (ws' := (wLo cI cJ cZ cA V land there near worn trial fits ways joined ao out)) [12, 13, 14, 15, 16, 17, 18, 0, 1, 2, 3, 4, 5, 6, 7, 8, 9, 10, 11] rfl rfl ?_
    refine x_i2l (pc := 7) K dL_tintOf_7 ?_
    refine x_last (ws' := (wLo cI cJ cZ cA V land there near worn trial fits ways joined ao (vp_updL out (0 : Int32).toNatClampNeg r.toInt64))) (pc := 8) K 18 1 rfl rfl rfl (by decide) dL_tintOf_8 ?_
    refine x_goto (pc := 9) K dL_tintOf_9 (tgt := 15) (by decide) ?_
    refine x_iconst (v := 0) (pc := 15) K dL_tintOf_15 (by decide) ?_
    exact hX 0 (vp_updL out (0 : Int32).toNatClampNeg r.toInt64) _ _ h dL_tintOf_16
def q_L_leastFree (p1 : Int32) (near : Nat → Int32) (worn : Nat → Int32) (out : Nat → Int64) (P : Int32 → (Nat → Int64) → Prop) : Prop := q_X0_leastFree p1 near worn (fun (r : Int32)  => P (0 : Int32) (vp_updL out (0 : Int32).toNatClampNeg r.toInt64)) (fun E => (E = "java/lang/IndexOutOfBoundsException" ∧ P (1 : Int32) out))
abbrev rm_L_leastFree : Room := { frames := 11, cells := 1, slots := 6, locals := 240 }
theorem kL_leastFree_0 : Cond.classLink RL 13 "java/lang/IndexOutOfBoundsException" ∈ wsL_leastFree := by decide +kernel
set_option maxHeartbeats 4000000 in
set_option maxRecDepth 100000 in
theorem c_L_leastFree (l : Launch) (D : va_G) (cI cJ cZ cA : ClassId) (hst : l.stackTraces = false) (V : Nat → Nat) (ao : Nat) (p1 : Int32) (land : Nat → Int64) (there : Int32) (near : Nat → Int32) (worn : Nat → Int32) (trial : Nat → Int32) (fits : Nat → Int32) (ways : Nat → Int64) (joined : Nat → Nat → Int32) (out : Nat → Int64) (P : Int32 → (Nat → Int64) → Prop) (h : q_L_leastFree p1 near worn out P) : xHi l yL_leastFree wsL_leastFree rm_L_leastFree D vwCl (xtys cI cJ cZ cA) (wLo cI cJ cZ cA V land there near worn trial fits ways joined ao out) [.ref (V 0), .int p1, .ref ao] RX0 [(183, "there is no such country")] (σ := (Nat → Int64)) (fun u => (wLo cI cJ cZ cA V land there near worn trial fits ways joined ao u)) (fun r u => P r u) 1 6 := by
  refine xHi_of (cc := cL_leastFree) (maxL := 4) (hh := [(0, 9, 12, 13)]) (by decide) rfl (Nat.le_of_ble_eq_true rfl) ?_
  intro X K hE ht hX
  have K : xk X l rm_L_leastFree D vwCl (xtys cI cJ cZ cA) cL_leastFree RL wsL_leastFree 4 := K
  unfold q_L_leastFree at h
  refine x_aload_n (pc := 0) K dL_leastFree_0 2 rfl rfl ?_
  refine x_iconst (v := 0) (pc := 1) K dL_leastFree_1 (by decide) ?_
  refine x_aload_n (pc := 2) K dL_leastFree_2 0 rfl rfl ?_
  refine x_iload_n (pc := 3) K dL_leastFree_3 1 rfl rfl ?_
  refine x_tcallVi (pc := 4) (n := 1) K hE (by decide) (c_X0_leastFree l D cI cJ cZ cA hst V p1 land there near worn trial fits ways _ _ h) rfl rfl gL_leastFree_X0_leastFree rfl (by decide +kernel) ⟨Nat.le_of_ble_eq_true rfl, Nat.le_of_ble_eq_true rfl⟩ rfl (av := [.int p1]) (b := V 0) (ci := 0) (q0 := 0) rfl rfl rfl (Nat.le_of_ble_eq_true rfl) [0, 1, 2, 3, 4, 5, 6] [7, 8, 9, 10, 11, 12, 13, 14, 15, 16, 17, 18] (wr := (wJ cI cA (V 7) (fun k => V (k + 8)) joined ++ [(ao, .inl (cJ, 1, .inr (.inl out)))])) rfl rfl rfl rfl (by decide) dL_leastFree_4 ⟨Nat.le_of_ble_eq_true rfl, Nat.le_of_ble_eq_true rfl⟩ (fun E hT => ?_) (fun r u9 h => ?_)
  · obtain ⟨rfl, hp⟩ := hT
    refine x_catch K hE ht [] (0, 9, 12, 13) [] rfl (fun z hz => absurd hz List.not_mem_nil) (by decide) (by decide) kL_leastFree_0 (by decide) (fun q => ?_)
    refine x_astore_n (lv' := [(0, .ref (V 0)), (1, .int p1), (2, .ref ao), (3, .ref q)]) (pc := 12) K dL_leastFree_12 rfl (by decide) rfl ?_
    refine x_iconst (v := 1) (pc := 13) K dL_leastFree_13 (by decide) ?_
    refine x_wsub (ws' := (wLo cI cJ cZ cA V land there near worn trial fits ways joined ao out)) [12, 13, 14, 15, 16, 17, 18, 0, 1, 2, 3, 4, 5, 6, 7, 8, 9, 10, 11] rfl rfl ?_
    exact hX 1 out _ _ hp dL_leastFree_14
  · refine x_wsub (ws' := (wLo cI cJ cZ cA V land there near worn trial fits ways joined ao out)) [12, 13, 14, 15, 16, 17, 18, 0, 1, 2, 3, 4, 5, 6, 7, 8, 9, 10, 11] rfl rfl ?_
    refine x_i2l (pc := 7) K dL_leastFree_7 ?_
    refine x_last (ws' := (wLo cI cJ cZ cA V land there near worn trial fits ways joined ao (vp_updL out (0 : Int32).toNatClampNeg r.toInt64))) (pc := 8) K 18 1 rfl rfl rfl (by decide) dL_leastFree_8 ?_
    refine x_goto (pc := 9) K dL_leastFree_9 (tgt := 15) (by decide) ?_
    refine x_iconst (v := 0) (pc := 15) K dL_leastFree_15 (by decide) ?_
    exact hX 0 (vp_updL out (0 : Int32).toNatClampNeg r.toInt64) _ _ h dL_leastFree_16
def q_L_chain (p1 : Int32) (p2 : Int32) (there : Int32) (near : Nat → Int32) (worn : Nat → Int32) (out : Nat → Int64) (P : Int32 → (Nat → Int64) → Prop) : Prop := q_X0_chain p1 p2 there near worn (fun (r : Int32)  => P (0 : Int32) (vp_updL out (0 : Int32).toNatClampNeg r.toInt64)) (fun E => (E = "java/lang/IndexOutOfBoundsException" ∧ P (1 : Int32) out) ∨ (E = "java/lang/IllegalArgumentException" ∧ P (2 : Int32) out) ∨ (E = "java/lang/IllegalStateException" ∧ P (3 : Int32) out))
abbrev rm_L_chain : Room := { frames := 11, cells := 3, slots := 18, locals := 240 }
theorem kL_chain_0 : Cond.classLink RL 13 "java/lang/IndexOutOfBoundsException" ∈ wsL_chain := by decide +kernel
theorem kL_chain_1 : Cond.classLink RL 15 "java/lang/IllegalArgumentException" ∈ wsL_chain := by decide +kernel
theorem kL_chain_2 : Cond.classLink RL 56 "java/lang/IllegalStateException" ∈ wsL_chain := by decide +kernel
set_option maxHeartbeats 4000000 in
set_option maxRecDepth 100000 in
theorem c_L_chain (l : Launch) (D : va_G) (cI cJ cZ cA : ClassId) (hst : l.stackTraces = false) (V : Nat → Nat) (ao : Nat) (p1 : Int32) (p2 : Int32) (land : Nat → Int64) (there : Int32) (near : Nat → Int32) (worn : Nat → Int32) (trial : Nat → Int32) (fits : Nat → Int32) (ways : Nat → Int64) (joined : Nat → Nat → Int32) (out : Nat → Int64) (P : Int32 → (Nat → Int64) → Prop) (h : q_L_chain p1 p2 there near worn out P) : xHi l yL_chain wsL_chain rm_L_chain D vwCl (xtys cI cJ cZ cA) (wLo cI cJ cZ cA V land there near worn trial fits ways joined ao out) [.ref (V 0), .int p1, .int p2, .ref ao] RX0 [(183, "there is no such country"), (187, "there is no such tint"), (193, "the country is not there or has no tint")] (σ := (Nat → Int64)) (fun u => (wLo cI cJ cZ cA V land there near worn trial fits ways joined ao u)) (fun r u => P r u) 3 18 := by
  refine xHi_of (cc := cL_chain) (maxL := 5) (hh := [(0, 10, 13, 13), (0, 10, 17, 15), (0, 10, 21, 56)]) (by decide) rfl (Nat.le_of_ble_eq_true rfl) ?_
  intro X K hE ht hX
  have K : xk X l rm_L_chain D vwCl (xtys cI cJ cZ cA) cL_chain RL wsL_chain 5 := K
  unfold q_L_chain at h
  refine x_aload_n (pc := 0) K dL_chain_0 3 rfl rfl ?_
  refine x_iconst (v := 0) (pc := 1) K dL_chain_1 (by decide) ?_
  refine x_aload_n (pc := 2) K dL_chain_2 0 rfl rfl ?_
  refine x_iload_n (pc := 3) K dL_chain_3 1 rfl rfl ?_
  refine x_iload_n (pc := 4) K dL_chain_4 2 rfl rfl ?_
  refine x_tcallVi (pc := 5) (n := 2) K hE (by decide) (c_X0_chain l D cI cJ cZ cA hst V p1 p2 land there near worn trial fits ways _ _ h) rfl rfl gL_chain_X0_chain rfl (by decide +kernel) ⟨Nat.le_of_ble_eq_true rfl, Nat.le_of_ble_eq_true rfl⟩ rfl (av := [.int p1, .int p2]) (b := V 0) (ci := 0) (q0 := 0) rfl rfl rfl (Nat.le_of_ble_eq_true rfl) [0, 1, 2, 3, 4, 5, 6] [7, 8, 9, 10, 11, 12, 13, 14, 15, 16, 17, 18] (wr := (wJ cI cA (V 7) (fun k => V (k + 8)) joined ++ [(ao, .inl (cJ, 1, .inr (.inl out)))])) rfl rfl rfl rfl (by decide) dL_chain_5 ⟨Nat.le_of_ble_eq_true rfl, Nat.le_of_ble_eq_true rfl⟩ (fun E hT => ?_) (fun r u9 h => ?_)
  · rcases hT with ⟨rfl, hp⟩ | ⟨rfl, hp⟩ | ⟨rfl, hp⟩
    · refine x_catch K hE ht [] (0, 10, 13, 13) [(0, 10, 17, 15), (0, 10, 21, 56)] rfl (fun z hz => absurd hz List.not_mem_nil) (by decide) (by decide) kL_chain_0 (by decide) (fun q => ?_)
      refine x_astore (lv' := [(0, .ref (V 0)), (1, .int p1), (2, .int p2), (3, .ref ao), (4, .ref q)]) (pc := 13) K dL_chain_13 (by decide) rfl ?_
      refine x_iconst (v := 1) (pc := 15) K dL_chain_15 (by decide) ?_
      refine x_wsub (ws' := (wLo cI cJ cZ cA V land there near worn trial fits ways joined ao out)) [12, 13, 14, 15, 16, 17, 18, 0, 1, 2, 3, 4, 5, 6, 7, 8, 9, 10, 11] rfl rfl ?_
      exact hX 1 out _ _ hp dL_chain_16
    · refine x_catch K hE ht [(0, 10, 13, 13)] (0, 10, 17, 15) [(0, 10, 21, 56)] rfl (fun z hz => by obtain rfl := List.mem_singleton.mp hz; exact ⟨by decide, "java/lang/IndexOutOfBoundsException", kL_chain_0, by decide⟩) (by decide) (by decide) kL_chain_1 (by decide) (fun q => ?_)
      refine x_astore (lv' := [(0, .ref (V 0)), (1, .int p1), (2, .int p2), (3, .ref ao), (4, .ref q)]) (pc := 17) K dL_chain_17 (by decide) rfl ?_
      refine x_iconst (v := 2) (pc := 19) K dL_chain_19 (by decide) ?_
      refine x_wsub (ws' := (wLo cI cJ cZ cA V land there near worn trial fits ways joined ao out)) [12, 13, 14, 15, 16, 17, 18, 0, 1, 2, 3, 4, 5, 6, 7, 8, 9, 10, 11] rfl rfl ?_
      exact hX 2 out _ _ hp dL_chain_20
    · refine x_catch K hE ht [(0, 10, 13, 13), (0, 10, 17, 15)] (0, 10, 21, 56) [] rfl (fun z hz => by rcases List.mem_cons.mp hz with rfl | hz; exact ⟨by decide, "java/lang/IndexOutOfBoundsException", kL_chain_0, by decide⟩; obtain rfl := List.mem_singleton.mp hz; exact ⟨by decide, "java/lang/IllegalArgumentException", kL_chain_1, by decide⟩) (by decide) (by decide) kL_chain_2 (by decide) (fun q => ?_)
      refine x_astore (lv' := [(0, .ref (V 0)), (1, .int p1), (2, .int p2), (3, .ref ao), (4, .ref q)]) (pc := 21) K dL_chain_21 (by decide) rfl ?_
      refine x_iconst (v := 3) (pc := 23) K dL_chain_23 (by decide) ?_
      refine x_wsub (ws' := (wLo cI cJ cZ cA V land there near worn trial fits ways joined ao out)) [12, 13, 14, 15, 16, 17, 18, 0, 1, 2, 3, 4, 5, 6, 7, 8, 9, 10, 11] rfl rfl ?_
      exact hX 3 out _ _ hp dL_chain_24
  · refine x_wsub (ws' := (wLo cI cJ cZ cA V land there near worn trial fits ways joined ao out)) [12, 13, 14, 15, 16, 17, 18, 0, 1, 2, 3, 4, 5, 6, 7, 8, 9, 10, 11] rfl rfl ?_
    refine x_i2l (pc := 8) K dL_chain_8 ?_
    refine x_last (ws' := (wLo cI cJ cZ cA V land there near worn trial fits ways joined ao (vp_updL out (0 : Int32).toNatClampNeg r.toInt64))) (pc := 9) K 18 1 rfl rfl rfl (by decide) dL_chain_9 ?_
    refine x_goto (pc := 10) K dL_chain_10 (tgt := 25) (by decide) ?_
    refine x_iconst (v := 0) (pc := 25) K dL_chain_25 (by decide) ?_
    exact hX 0 (vp_updL out (0 : Int32).toNatClampNeg r.toInt64) _ _ h dL_chain_26
def q_L_exchange (p1 : Int32) (p2 : Int32) (there : Int32) (near : Nat → Int32) (worn : Nat → Int32) (out : Nat → Int64) (P : Int32 → (Nat → Int32) → (Nat → Int64) → Prop) : Prop := q_X0_exchange p1 p2 there near worn (fun (r : Int32) (o0 : Nat → Int32) => P (0 : Int32) o0 (vp_updL out (0 : Int32).toNatClampNeg r.toInt64)) (fun E => (E = "java/lang/IndexOutOfBoundsException" ∧ P (1 : Int32) worn out) ∨ (E = "java/lang/IllegalArgumentException" ∧ P (2 : Int32) worn out) ∨ (E = "java/lang/IllegalStateException" ∧ P (3 : Int32) worn out))
abbrev rm_L_exchange : Room := { frames := 11, cells := 3, slots := 18, locals := 240 }
theorem kL_exchange_0 : Cond.classLink RL 13 "java/lang/IndexOutOfBoundsException" ∈ wsL_exchange := by decide +kernel
theorem kL_exchange_1 : Cond.classLink RL 15 "java/lang/IllegalArgumentException" ∈ wsL_exchange := by decide +kernel
theorem kL_exchange_2 : Cond.classLink RL 56 "java/lang/IllegalStateException" ∈ wsL_exchange := by decide +kernel
set_option maxHeartbeats 4000000 in
set_option maxRecDepth 100000 in
theorem c_L_exchange (l : Launch) (D : va_G) (cI cJ cZ cA : ClassId) (hst : l.stackTraces = false) (V : Nat → Nat) (ao : Nat) (p1 : Int32) (p2 : Int32) (land : Nat → Int64) (there : Int32) (near : Nat → Int32) (worn : Nat → Int32) (trial : Nat → Int32) (fits : Nat → Int32) (ways : Nat → Int64) (joined : Nat → Nat → Int32) (out : Nat → Int64) (P : Int32 → (Nat → Int32) → (Nat → Int64) → Prop) (h : q_L_exchange p1 p2 there near worn out P) : xHi l yL_exchange wsL_exchange rm_L_exchange D vwCl (xtys cI cJ cZ cA) (wLo cI cJ cZ cA V land there near worn trial fits ways joined ao out) [.ref (V 0), .int p1, .int p2, .ref ao] RX0 [(183, "there is no such country"), (187, "there is no such tint"), (193, "the country is not there or has no tint")] (σ := (Nat → Int32) × (Nat → Int64)) (fun u => (wLo cI cJ cZ cA V land there near u.1 trial fits ways joined ao u.2)) (fun r u => P r u.1 u.2) 3 18 := by
  refine xHi_of (cc := cL_exchange) (maxL := 5) (hh := [(0, 10, 13, 13), (0, 10, 17, 15), (0, 10, 21, 56)]) (by decide) rfl (Nat.le_of_ble_eq_true rfl) ?_
  intro X K hE ht hX
  have K : xk X l rm_L_exchange D vwCl (xtys cI cJ cZ cA) cL_exchange RL wsL_exchange 5 := K
  unfold q_L_exchange at h
  refine x_aload_n (pc := 0) K dL_exchange_0 3 rfl rfl ?_
  refine x_iconst (v := 0) (pc := 1) K dL_exchange_1 (by decide) ?_
  refine x_aload_n (pc := 2) K dL_exchange_2 0 rfl rfl ?_
  refine x_iload_n (pc := 3) K dL_exchange_3 1 rfl rfl ?_
  refine x_iload_n (pc := 4) K dL_exchange_4 2 rfl rfl ?_
  refine x_tcallVi (pc := 5) (n := 2) K hE (by decide) (c_X0_exchange l D cI cJ cZ cA hst V p1 p2 land there near worn trial fits ways _ _ h) rfl rfl gL_exchange_X0_exchange rfl (by decide +kernel) ⟨Nat.le_of_ble_eq_true rfl, Nat.le_of_ble_eq_true rfl⟩ rfl (av := [.int p1, .int p2]) (b := V 0) (ci := 0) (q0 := 0) rfl rfl rfl (Nat.le_of_ble_eq_true rfl) [0, 1, 2, 3, 4, 5, 6] [7, 8, 9, 10, 11, 12, 13, 14, 15, 16, 17, 18] (wr := (wJ cI cA (V 7) (fun k => V (k + 8)) joined ++ [(ao, .inl (cJ, 1, .inr (.inl out)))])) rfl rfl rfl rfl (by decide) dL_exchange_5 ⟨Nat.le_of_ble_eq_true rfl, Nat.le_of_ble_eq_true rfl⟩ (fun E hT => ?_) (fun r o0 h => ?_)
  · rcases hT with ⟨rfl, hp⟩ | ⟨rfl, hp⟩ | ⟨rfl, hp⟩
    · refine x_catch K hE ht [] (0, 10, 13, 13) [(0, 10, 17, 15), (0, 10, 21, 56)] rfl (fun z hz => absurd hz List.not_mem_nil) (by decide) (by decide) kL_exchange_0 (by decide) (fun q => ?_)
      refine x_astore (lv' := [(0, .ref (V 0)), (1, .int p1), (2, .int p2), (3, .ref ao), (4, .ref q)]) (pc := 13) K dL_exchange_13 (by decide) rfl ?_
      refine x_iconst (v := 1) (pc := 15) K dL_exchange_15 (by decide) ?_
      refine x_wsub (ws' := (wLo cI cJ cZ cA V land there near worn trial fits ways joined ao out)) [12, 13, 14, 15, 16, 17, 18, 0, 1, 2, 3, 4, 5, 6, 7, 8, 9, 10, 11] rfl rfl ?_
      exact hX 1 (worn, out) _ _ hp dL_exchange_16
    · refine x_catch K hE ht [(0, 10, 13, 13)] (0, 10, 17, 15) [(0, 10, 21, 56)] rfl (fun z hz => by obtain rfl := List.mem_singleton.mp hz; exact ⟨by decide, "java/lang/IndexOutOfBoundsException", kL_exchange_0, by decide⟩) (by decide) (by decide) kL_exchange_1 (by decide) (fun q => ?_)
      refine x_astore (lv' := [(0, .ref (V 0)), (1, .int p1), (2, .int p2), (3, .ref ao), (4, .ref q)]) (pc := 17) K dL_exchange_17 (by decide) rfl ?_
      refine x_iconst (v := 2) (pc := 19) K dL_exchange_19 (by decide) ?_
      refine x_wsub (ws' := (wLo cI cJ cZ cA V land there near worn trial fits ways joined ao out)) [12, 13, 14, 15, 16, 17, 18, 0, 1, 2, 3, 4, 5, 6, 7, 8, 9, 10, 11] rfl rfl ?_
      exact hX 2 (worn, out) _ _ hp dL_exchange_20
    · refine x_catch K hE ht [(0, 10, 13, 13), (0, 10, 17, 15)] (0, 10, 21, 56) [] rfl (fun z hz => by rcases List.mem_cons.mp hz with rfl | hz; exact ⟨by decide, "java/lang/IndexOutOfBoundsException", kL_exchange_0, by decide⟩; obtain rfl := List.mem_singleton.mp hz; exact ⟨by decide, "java/lang/IllegalArgumentException", kL_exchange_1, by decide⟩) (by decide) (by decide) kL_exchange_2 (by decide) (fun q => ?_)
      refine x_astore (lv' := [(0, .ref (V 0)), (1, .int p1), (2, .int p2), (3, .ref ao), (4, .ref q)]) (pc := 21) K dL_exchange_21 (by decide) rfl ?_
      refine x_iconst (v := 3) (pc := 23) K dL_exchange_23 (by decide) ?_
      refine x_wsub (ws' := (wLo cI cJ cZ cA V land there near worn trial fits ways joined ao out)) [12, 13, 14, 15, 16, 17, 18, 0, 1, 2, 3, 4, 5, 6, 7, 8, 9, 10, 11] rfl rfl ?_
      exact hX 3 (worn, out) _ _ hp dL_exchange_24
  · refine x_wsub (ws' := (wLo cI cJ cZ cA V land there near o0 trial fits ways joined ao out)) [12, 13, 14, 15, 16, 17, 18, 0, 1, 2, 3, 4, 5, 6, 7, 8, 9, 10, 11] rfl rfl ?_
    refine x_i2l (pc := 8) K dL_exchange_8 ?_
    refine x_last (ws' := (wLo cI cJ cZ cA V land there near o0 trial fits ways joined ao (vp_updL out (0 : Int32).toNatClampNeg r.toInt64))) (pc := 9) K 18 1 rfl rfl rfl (by decide) dL_exchange_9 ?_
    refine x_goto (pc := 10) K dL_exchange_10 (tgt := 25) (by decide) ?_
    refine x_iconst (v := 0) (pc := 25) K dL_exchange_25 (by decide) ?_
    exact hX 0 (o0, (vp_updL out (0 : Int32).toNatClampNeg r.toInt64)) _ _ h dL_exchange_26
def q_L_tintings (p1 : Int32) (there : Int32) (near : Nat → Int32) (fits : Nat → Int32) (ways : Nat → Int64) (out : Nat → Int64) (P : Int32 → (Nat → Int32) → (Nat → Int64) → (Nat → Int64) → Prop) : Prop := q_X0_tintings p1 there near fits ways (fun (r : Int64) (o0 : Nat → Int32) (o1 : Nat → Int64) => P (0 : Int32) o0 o1 (vp_updL out (0 : Int32).toNatClampNeg r)) (fun E => (E = "java/lang/IllegalArgumentException" ∧ P (1 : Int32) fits ways out))
abbrev rm_L_tintings : Room := { frames := 11, cells := 1, slots := 6, locals := 240 }
theorem kL_tintings_0 : Cond.classLink RL 15 "java/lang/IllegalArgumentException" ∈ wsL_tintings := by decide +kernel
set_option maxHeartbeats 4000000 in
set_option maxRecDepth 100000 in
theorem c_L_tintings (l : Launch) (D : va_G) (cI cJ cZ cA : ClassId) (hst : l.stackTraces = false) (V : Nat → Nat) (ao : Nat) (p1 : Int32) (land : Nat → Int64) (there : Int32) (near : Nat → Int32) (worn : Nat → Int32) (trial : Nat → Int32) (fits : Nat → Int32) (ways : Nat → Int64) (joined : Nat → Nat → Int32) (out : Nat → Int64) (P : Int32 → (Nat → Int32) → (Nat → Int64) → (Nat → Int64) → Prop) (h : q_L_tintings p1 there near fits ways out P) : xHi l yL_tintings wsL_tintings rm_L_tintings D vwCl (xtys cI cJ cZ cA) (wLo cI cJ cZ cA V land there near worn trial fits ways joined ao out) [.ref (V 0), .int p1, .ref ao] RX0 [(189, "there are not so many tints")] (σ := (Nat → Int32) × (Nat → Int64) × (Nat → Int64)) (fun u => (wLo cI cJ cZ cA V land there near worn trial u.1 u.2.1 joined ao u.2.2)) (fun r u => P r u.1 u.2.1 u.2.2) 1 6 := by
  refine xHi_of (cc := cL_tintings) (maxL := 4) (hh := [(0, 8, 11, 15)]) (by decide) rfl (Nat.le_of_ble_eq_true rfl) ?_
  intro X K hE ht hX
  have K : xk X l rm_L_tintings D vwCl (xtys cI cJ cZ cA) cL_tintings RL wsL_tintings 4 := K
  unfold q_L_tintings at h
  refine x_aload_n (pc := 0) K dL_tintings_0 2 rfl rfl ?_
  refine x_iconst (v := 0) (pc := 1) K dL_tintings_1 (by decide) ?_
  refine x_aload_n (pc := 2) K dL_tintings_2 0 rfl rfl ?_
  refine x_iload_n (pc := 3) K dL_tintings_3 1 rfl rfl ?_
  refine x_tcallVl (pc := 4) (n := 1) K hE (by decide) (c_X0_tintings l D cI cJ cZ cA hst V p1 land there near worn trial fits ways _ _ h) rfl rfl gL_tintings_X0_tintings rfl (by decide +kernel) ⟨Nat.le_of_ble_eq_true rfl, Nat.le_of_ble_eq_true rfl⟩ rfl (av := [.int p1]) (b := V 0) (ci := 0) (q0 := 0) rfl rfl rfl (Nat.le_of_ble_eq_true rfl) [0, 1, 2, 3, 4, 5, 6] [7, 8, 9, 10, 11, 12, 13, 14, 15, 16, 17, 18] (wr := (wJ cI cA (V 7) (fun k => V (k + 8)) joined ++ [(ao, .inl (cJ, 1, .inr (.inl out)))])) rfl rfl rfl rfl (by decide) dL_tintings_4 ⟨Nat.le_of_ble_eq_true rfl, Nat.le_of_ble_eq_true rfl⟩ (fun E hT => ?_) (fun r u9 h => ?_)
  · obtain ⟨rfl, hp⟩ := hT
    refine x_catch K hE ht [] (0, 8, 11, 15) [] rfl (fun z hz => absurd hz List.not_mem_nil) (by decide) (by decide) kL_tintings_0 (by decide) (fun q => ?_)
    refine x_astore_n (lv' := [(0, .ref (V 0)), (1, .int p1), (2, .ref ao), (3, .ref q)]) (pc := 11) K dL_tintings_11 rfl (by decide) rfl ?_
    refine x_iconst (v := 1) (pc := 12) K dL_tintings_12 (by decide) ?_
    refine x_wsub (ws' := (wLo cI cJ cZ cA V land there near worn trial fits ways joined ao out)) [12, 13, 14, 15, 16, 17, 18, 0, 1, 2, 3, 4, 5, 6, 7, 8, 9, 10, 11] rfl rfl ?_
    exact hX 1 (fits, ways, out) _ _ hp dL_tintings_13
  · obtain ⟨o0, o1⟩ := u9
    refine x_wsub (ws' := (wLo cI cJ cZ cA V land there near worn trial o0 o1 joined ao out)) [12, 13, 14, 15, 16, 17, 18, 0, 1, 2, 3, 4, 5, 6, 7, 8, 9, 10, 11] rfl rfl ?_
    refine x_last (ws' := (wLo cI cJ cZ cA V land there near worn trial o0 o1 joined ao (vp_updL out (0 : Int32).toNatClampNeg r))) (pc := 7) K 18 1 rfl rfl rfl (by decide) dL_tintings_7 ?_
    refine x_goto (pc := 8) K dL_tintings_8 (tgt := 14) (by decide) ?_
    refine x_iconst (v := 0) (pc := 14) K dL_tintings_14 (by decide) ?_
    exact hX 0 (o0, o1, (vp_updL out (0 : Int32).toNatClampNeg r)) _ _ h dL_tintings_15
def q_L_tintingsByPairs (p1 : Int32) (near : Nat → Int32) (there : Int32) (joined : Nat → Nat → Int32) (out : Nat → Int64) (P : Int32 → (Nat → Nat → Int32) → (Nat → Int64) → Prop) : Prop := q_X0_tintingsByPairs p1 near there joined (fun (r : Int64) (o0 : Nat → Nat → Int32) => P (0 : Int32) o0 (vp_updL out (0 : Int32).toNatClampNeg r)) (fun E => (E = "java/lang/IllegalArgumentException" ∧ P (1 : Int32) joined out))
abbrev rm_L_tintingsByPairs : Room := { frames := 40, cells := 1, slots := 6, locals := 1100 }
theorem kL_tintingsByPairs_0 : Cond.classLink RL 15 "java/lang/IllegalArgumentException" ∈ wsL_tintingsByPairs := by decide +kernel
set_option maxHeartbeats 4000000 in
set_option maxRecDepth 100000 in
theorem c_L_tintingsByPairs (l : Launch) (D : va_G) (cI cJ cZ cA : ClassId) (hst : l.stackTraces = false) (V : Nat → Nat) (ao : Nat) (p1 : Int32) (land : Nat → Int64) (there : Int32) (near : Nat → Int32) (worn : Nat → Int32) (trial : Nat → Int32) (fits : Nat → Int32) (ways : Nat → Int64) (joined : Nat → Nat → Int32) (out : Nat → Int64) (P : Int32 → (Nat → Nat → Int32) → (Nat → Int64) → Prop) (h : q_L_tintingsByPairs p1 near there joined out P) : xHi l yL_tintingsByPairs wsL_tintingsByPairs rm_L_tintingsByPairs D vwCl (xtys cI cJ cZ cA) (wLo cI cJ cZ cA V land there near worn trial fits ways joined ao out) [.ref (V 0), .int p1, .ref ao] RX0 [(189, "there are not so many tints")] (σ := (Nat → Nat → Int32) × (Nat → Int64)) (fun u => (wLo cI cJ cZ cA V land there near worn trial fits ways u.1 ao u.2)) (fun r u => P r u.1 u.2) 1 6 := by
  refine xHi_of (cc := cL_tintingsByPairs) (maxL := 4) (hh := [(0, 8, 11, 15)]) (by decide) rfl (Nat.le_of_ble_eq_true rfl) ?_
  intro X K hE ht hX
  have K : xk X l rm_L_tintingsByPairs D vwCl (xtys cI cJ cZ cA) cL_tintingsByPairs RL wsL_tintingsByPairs 4 := K
  unfold q_L_tintingsByPairs at h
  refine x_aload_n (pc := 0) K dL_tintingsByPairs_0 2 rfl rfl ?_
  refine x_iconst (v := 0) (pc := 1) K dL_tintingsByPairs_1 (by decide) ?_
  refine x_aload_n (pc := 2) K dL_tintingsByPairs_2 0 rfl rfl ?_
  refine x_iload_n (pc := 3) K dL_tintingsByPairs_3 1 rfl rfl ?_
  refine x_tcallVl (pc := 4) (n := 1) K hE (by decide) (c_X0_tintingsByPairs l D cI cJ cZ cA hst V p1 land there near worn trial fits ways joined _ _ h) rfl rfl gL_tintingsByPairs_X0_tintingsByPairs rfl (by decide +kernel) ⟨Nat.le_of_ble_eq_true rfl, Nat.le_of_ble_eq_true rfl⟩ rfl (av := [.int p1]) (b := V 0) (ci := 0) (q0 := 0) rfl rfl rfl (Nat.le_of_ble_eq_true rfl) [0, 1, 2, 3, 4, 5, 6, 7, 8, 9, 10, 11, 12, 13, 14, 15, 16, 17] [18] (wr := [(ao, .inl (cJ, 1, .inr (.inl out)))]) rfl rfl rfl rfl (by decide) dL_tintingsByPairs_4 ⟨Nat.le_of_ble_eq_true rfl, Nat.le_of_ble_eq_true rfl⟩ (fun E hT => ?_) (fun r o0 h => ?_)
  · obtain ⟨rfl, hp⟩ := hT
    refine x_catch K hE ht [] (0, 8, 11, 15) [] rfl (fun z hz => absurd hz List.not_mem_nil) (by decide) (by decide) kL_tintingsByPairs_0 (by decide) (fun q => ?_)
    refine x_astore_n (lv' := [(0, .ref (V 0)), (1, .int p1), (2, .ref ao), (3, .ref q)]) (pc := 11) K dL_tintingsByPairs_11 rfl (by decide) rfl ?_
    refine x_iconst (v := 1) (pc := 12) K dL_tintingsByPairs_12 (by decide) ?_
    refine x_wsub (ws' := (wLo cI cJ cZ cA V land there near worn trial fits ways joined ao out)) [1, 2, 3, 4, 5, 6, 7, 8, 9, 10, 11, 12, 13, 14, 15, 16, 17, 18, 0] rfl rfl ?_
    exact hX 1 (joined, out) _ _ hp dL_tintingsByPairs_13
  · refine x_wsub (ws' := (wLo cI cJ cZ cA V land there near worn trial fits ways o0 ao out)) [1, 2, 3, 4, 5, 6, 7, 8, 9, 10, 11, 12, 13, 14, 15, 16, 17, 18, 0] rfl rfl ?_
    refine x_last (ws' := (wLo cI cJ cZ cA V land there near worn trial fits ways o0 ao (vp_updL out (0 : Int32).toNatClampNeg r))) (pc := 7) K 18 1 rfl rfl rfl (by decide) dL_tintingsByPairs_7 ?_
    refine x_goto (pc := 8) K dL_tintingsByPairs_8 (tgt := 14) (by decide) ?_
    refine x_iconst (v := 0) (pc := 14) K dL_tintingsByPairs_14 (by decide) ?_
    exact hX 0 (o0, (vp_updL out (0 : Int32).toNatClampNeg r)) _ _ h dL_tintingsByPairs_15
