/-! contracts and calls over xw -/
def xPre (D : va_G) (cl : List vw_C) (tys : List (ClassId × FieldType)) (ws : va_W) (sz : Nat) (av : List Value) : Array Value → State → Prop := va_Pc av (fun U => U.heap.size = sz ∧ va_P D cl ws U.heap ∧ va_K D cl tys U ∧ va_D (fun _ => True) ws)
def xB (D : va_G) (cl : List vw_C) (tys : List (ClassId × FieldType)) (A : Nat → Prop) (ws : va_W) (t : State) : Prop := va_P D cl ws t.heap ∧ va_K D cl tys t ∧ va_D A ws
/-- words on the exceptions' own classes that no method's list bears -/
def xBad : List Cond := [.declares (Bundle.initS "java/lang/RuntimeException"), .declares (Bundle.initS "java/lang/Exception"), .declares (Bundle.initS Bundle.tN), .castable "java/lang/IndexOutOfBoundsException" "java/lang/IndexOutOfBoundsException", .castable "java/lang/IllegalArgumentException" "java/lang/IllegalArgumentException", .castable "java/lang/IllegalStateException" "java/lang/IllegalStateException"]
theorem xBad_all {p : Cond → Prop} (h1 : p (.declares (Bundle.initS "java/lang/RuntimeException"))) (h2 : p (.declares (Bundle.initS "java/lang/Exception"))) (h3 : p (.declares (Bundle.initS Bundle.tN))) (h4 : p (.castable "java/lang/IndexOutOfBoundsException" "java/lang/IndexOutOfBoundsException")) (h5 : p (.castable "java/lang/IllegalArgumentException" "java/lang/IllegalArgumentException")) (h6 : p (.castable "java/lang/IllegalStateException" "java/lang/IllegalStateException")) : ∀ w ∈ xBad, p w := by
  intro w hw
  simp only [xBad, List.mem_cons, List.not_mem_nil, or_false] at hw
  rcases hw with rfl | rfl | rfl | rfl | rfl | rfl
  · exact h1
  · exact h2
  · exact h3
  · exact h4
  · exact h5
  · exact h6
theorem xBad_ok : ∀ w ∈ xBad, w.faceAtom = true ∧ w.onTables = true := xBad_all ⟨rfl, rfl⟩ ⟨rfl, rfl⟩ ⟨rfl, rfl⟩ ⟨rfl, rfl⟩ ⟨rfl, rfl⟩ ⟨rfl, rfl⟩
theorem xBad_same {u U : State} (hv : U.vm = u.vm) (h : ∀ w ∈ xBad, w.before #[] u = true) : ∀ w ∈ xBad, w.before #[] U = true := fun w hw => va_tabs (xBad_ok w hw).2 hv.symm (h w hw)
theorem xBad_warm {u U : State} (hW : u.WarmedH U.vm) (h : ∀ w ∈ xBad, w.before #[] u = true) : ∀ w ∈ xBad, w.before #[] U = true := fun w hw => va_tabs (xBad_ok w hw).2 (rfl : (u.setVm U.vm).vm = U.vm) (Cond.faceAtom_setVm hW.alike w (xBad_ok w hw).1 (h w hw))
/-- statics of the JDK and texts that a throw needs -/
def xE (own : String) (L : List (Nat × String)) (A : Nat → Prop) (U : State) : Prop := vx_Zq Bundle.tN "UNASSIGNED_STACK" Bundle.steD A U U.heap ∧ vx_Zq Bundle.tN "SUPPRESSED_SENTINEL" Bundle.listD A U U.heap ∧ (∀ q ∈ L, ∃ sa, vk_R own q.1 q.2 sa U) ∧ ∀ w ∈ xBad, w.before #[] U = true
def xPreT (D : va_G) (cl : List vw_C) (tys : List (ClassId × FieldType)) (ws : va_W) (sz : Nat) (av : List Value) (own : String) (L : List (Nat × String)) : Array Value → State → Prop := va_Pc av (fun U => U.heap.size = sz ∧ va_P D cl ws U.heap ∧ va_K D cl tys U ∧ va_D (fun _ => True) ws ∧ xE own L (va_A ws sz) U)
theorem xPre_blind {D : va_G} {cl : List vw_C} {tys : List (ClassId × FieldType)} {ws : va_W} {sz : Nat} {av : List Value} : FrameBlind (xPre D cl tys ws sz av) := fun a U g mk q => by
  obtain ⟨q0, q1, qP, qK, qD⟩ := q
  exact ⟨q0, q1, qP, va_K.moved (u := U) (U := U.calling g mk a) (Vm.Alike.refl U.vm) qK, qD⟩
theorem xPreT_blind {D : va_G} {cl : List vw_C} {tys : List (ClassId × FieldType)} {ws : va_W} {sz : Nat} {av : List Value} {own : String} {L : List (Nat × String)} : FrameBlind (xPreT D cl tys ws sz av own L) := fun a U g mk q => by
  obtain ⟨q0, q1, qP, qK, qD, e1, e2, e3, e4⟩ := q
  refine ⟨q0, q1, qP, va_K.moved (u := U) (U := U.calling g mk a) (Vm.Alike.refl U.vm) qK, qD, vx_Zq.moved (u := U) (U := U.calling g mk a) (Vm.Alike.refl U.vm) e1, vx_Zq.moved (u := U) (U := U.calling g mk a) (Vm.Alike.refl U.vm) e2, fun z hz => ?_, xBad_same (u := U) (U := U.calling g mk a) rfl e4⟩
  obtain ⟨sa, h⟩ := e3 z hz
  exact ⟨sa, vk_R.same rfl h⟩

def xMi (l : Launch) (y : MethodName) (w : List Cond) (rm : Room) (D : va_G) (cl : List vw_C) (tys : List (ClassId × FieldType)) (ws : va_W) (av : List Value) {σ : Type} (wf : σ → va_W) (P : Int32 → σ → Prop) : Prop := ∀ sz : Nat, Met l y w rm (xPre D cl tys ws sz av) (va_Qi P (fun u t => xB D cl tys (va_A ws sz) (wf u) t) (va_A ws sz)) 0 0 (va_A ws sz)
/-- the same, or it throws an exception of a class that T names, with its world as it was -/
def xTi (l : Launch) (y : MethodName) (w : List Cond) (rm : Room) (D : va_G) (cl : List vw_C) (tys : List (ClassId × FieldType)) (ws : va_W) (av : List Value) (own : String) (L : List (Nat × String)) {σ : Type} (wf : σ → va_W) (P : Int32 → σ → Prop) (T : String → Prop) (mc ms : Nat) : Prop := ∀ sz : Nat, vx_Met l y w rm (xPreT D cl tys ws sz av own L) (va_Qi P (fun u t => xB D cl tys (va_A ws sz) (wf u) t) (va_A ws sz)) (vx_X (fun _ : Unit => True) (fun E _ t => T E ∧ xB D cl tys (va_A ws sz) ws t) (va_A ws sz)) mc ms (va_A ws sz)
/-- the way out of a method -/
def xei (X : xC) (cc : ByteArray) (mc ms : Nat) {σ : Type} (wf : σ → va_W) (P : Int32 → σ → Prop) : Prop := ∀ (r : Int32) (u : σ) (pc : Nat) (lv : List (Nat × Value)), P r u → decode cc pc = .ok (.ireturn, 1) → xw X mc ms pc lv [.int r] (wf u)
/-- what a method that throws knows: statics and texts; no handlers; the way out -/
def xth : xC → va_W → String → List (Nat × String) → (String → Prop) → Nat → Nat → Prop
  | ((_, _, _, _, s, _, args, below, _, c), (D, cl, A, tys, _, Q)), ws, own, L, T, mc, ms => xE own L A s ∧ (∀ x ∈ c.exceptionTable.toList, False) ∧ ∀ E, T E → (∀ t : State, va_P D cl ws t.heap → va_F A s t → s.vm.Alike t.vm → vx_X (fun _ : Unit => True) (fun E _ t => T E ∧ xB D cl tys A ws t) A E s t) ∧ ∃ Qc, Q = vx_MQ below Qc (vx_X (fun _ : Unit => True) (fun E _ t => T E ∧ xB D cl tys A ws t) A) args s mc ms A
theorem xMi_of {l : Launch} {y : MethodName} {w w' : List Cond} {rm : Room} {D : va_G} {cl : List vw_C} {tys : List (ClassId × FieldType)} {ws : va_W} {av : List Value} {σ : Type} {wf : σ → va_W} {P : Int32 → σ → Prop} {cc : ByteArray} {maxL : Nat}
    (hy : plainName y.cls = true) (hw : w = Cond.code y cc maxL (some .int) :: w') (hav : (lg_sl av).length ≤ maxL)
    (body : ∀ X : xC, xk X l rm D cl tys cc y.cls w maxL → xei X cc 0 0 wf P → xw X 0 0 0 (lv_args 0 av) [] ws) : xMi l y w rm D cl tys ws av wf P := by
  intro sz
  refine Met.ofW (cc := cc) (maxL := maxL) (ret := some .int) hy hw ?_
  intro p e s m args below meth c s₁ B hml hv
  obtain ⟨rfl, hsz, hP, hK, hD0⟩ := hv
  have hx := B.exec
  have hb := B.bytes
  have hr := B.returns
  have hts := atoms_spec (ws := w) B.pre
  have hown : s.vm.findClass y.cls = some m.cls := findClass_of_methodNamed B.named
  have hlocks := B.notSynchronized
  subst hsz
  have hD := hD0.self (sz := s.heap.size)
  have hS : va_S (va_A ws s.heap.size) s.heap s.heap [] := va_S.rf
  have hl := lv_entry av (n := maxL) hav
  rw [lg_entry_eq]
  exact body ((p, l, e, rm, s, m, av.toArray, below, meth, c), (D, cl, va_A ws s.heap.size, tys, maxL, MQ below (va_Qi P (fun u t => xB D cl tys (va_A ws s.heap.size) (wf u) t) (va_A ws s.heap.size)) av.toArray s 0 0 (va_A ws s.heap.size)))
    ⟨rfl, rfl, rfl, rfl, rfl, hx, hb, hml, rfl, hown, hts, hK, fun q h => Or.inr h, hlocks⟩
    (by
      intro r u pc lv hp hd H locs ls hP hD hS hl
      exact W.iret (v := r) hx hb hr (fun t ht hW => ⟨⟨r, u, rfl, hp, by rw [ht]; exact hP, va_K.moved hW.alike hK, hD⟩, hS.F ht⟩) hS.2.2 hd)
    s.heap [] _ hP hD hS hl
theorem xTi_of {l : Launch} {y : MethodName} {w w' : List Cond} {rm : Room} {D : va_G} {cl : List vw_C} {tys : List (ClassId × FieldType)} {ws : va_W} {av : List Value} {own : String} {L : List (Nat × String)} {σ : Type} {wf : σ → va_W} {P : Int32 → σ → Prop} {T : String → Prop} {mc ms : Nat} {cc : ByteArray} {maxL : Nat}
    (hy : plainName y.cls = true) (hw : w = Cond.code y cc maxL (some .int) :: w') (hav : (lg_sl av).length ≤ maxL)
    (body : ∀ X : xC, xk X l rm D cl tys cc y.cls w maxL → xei X cc mc ms wf P → xth X ws own L T mc ms → xw X 0 0 0 (lv_args 0 av) [] ws) : xTi l y w rm D cl tys ws av own L wf P T mc ms := by
  intro sz
  refine vx_ofW (cc := cc) (maxL := maxL) (ret := some .int) hy hw ?_
  intro p e s m args below meth c s₁ B hml hno hv
  obtain ⟨rfl, hsz, hP, hK, hD0, hE⟩ := hv
  have hx := B.exec
  have hb := B.bytes
  have hr := B.returns
  have hts := atoms_spec (ws := w) B.pre
  have hown : s.vm.findClass y.cls = some m.cls := findClass_of_methodNamed B.named
  have hlocks := B.notSynchronized
  subst hsz
  have hD := hD0.self (sz := s.heap.size)
  have hS : va_S (va_A ws s.heap.size) s.heap s.heap [] := va_S.rf
  have hl := lv_entry av (n := maxL) hav
  rw [lg_entry_eq]
  exact body ((p, l, e, rm, s, m, av.toArray, below, meth, c), (D, cl, va_A ws s.heap.size, tys, maxL, vx_MQ below (va_Qi P (fun u t => xB D cl tys (va_A ws s.heap.size) (wf u) t) (va_A ws s.heap.size)) (vx_X (fun _ : Unit => True) (fun E _ t => T E ∧ xB D cl tys (va_A ws s.heap.size) ws t) (va_A ws s.heap.size)) av.toArray s mc ms (va_A ws s.heap.size)))
    ⟨rfl, rfl, rfl, rfl, rfl, hx, hb, hml, rfl, hown, hts, hK, fun q h => Or.inr h, hlocks⟩
    (by
      intro r u pc lv hp hd H locs ls hP hD hS hl
      exact vx_ret (W.iret (v := r) hx hb hr (fun t ht hW => ⟨⟨r, u, rfl, hp, by rw [ht]; exact hP, va_K.moved hW.alike hK, hD⟩, hS.F ht⟩) hS.2.2 hd))
    ⟨hE, fun x hx => absurd (hno x hx) id, fun E hT => ⟨fun t h1 h2 h3 => ⟨(), trivial, ⟨hT, h1, va_K.moved h3 hK, hD⟩, h2⟩, _, rfl⟩⟩
    s.heap [] _ hP hD hS hl
def xMl (l : Launch) (y : MethodName) (w : List Cond) (rm : Room) (D : va_G) (cl : List vw_C) (tys : List (ClassId × FieldType)) (ws : va_W) (av : List Value) {σ : Type} (wf : σ → va_W) (P : Int64 → σ → Prop) : Prop := ∀ sz : Nat, Met l y w rm (xPre D cl tys ws sz av) (va_Ql P (fun u t => xB D cl tys (va_A ws sz) (wf u) t) (va_A ws sz)) 0 0 (va_A ws sz)
/-- the same, or it throws an exception of a class that T names, with its world as it was -/
def xTl (l : Launch) (y : MethodName) (w : List Cond) (rm : Room) (D : va_G) (cl : List vw_C) (tys : List (ClassId × FieldType)) (ws : va_W) (av : List Value) (own : String) (L : List (Nat × String)) {σ : Type} (wf : σ → va_W) (P : Int64 → σ → Prop) (T : String → Prop) (mc ms : Nat) : Prop := ∀ sz : Nat, vx_Met l y w rm (xPreT D cl tys ws sz av own L) (va_Ql P (fun u t => xB D cl tys (va_A ws sz) (wf u) t) (va_A ws sz)) (vx_X (fun _ : Unit => True) (fun E _ t => T E ∧ xB D cl tys (va_A ws sz) ws t) (va_A ws sz)) mc ms (va_A ws sz)
/-- the way out of a method -/
def xel (X : xC) (cc : ByteArray) (mc ms : Nat) {σ : Type} (wf : σ → va_W) (P : Int64 → σ → Prop) : Prop := ∀ (r : Int64) (u : σ) (pc : Nat) (lv : List (Nat × Value)), P r u → decode cc pc = .ok (.lreturn, 1) → xw X mc ms pc lv [.long r] (wf u)
theorem xMl_of {l : Launch} {y : MethodName} {w w' : List Cond} {rm : Room} {D : va_G} {cl : List vw_C} {tys : List (ClassId × FieldType)} {ws : va_W} {av : List Value} {σ : Type} {wf : σ → va_W} {P : Int64 → σ → Prop} {cc : ByteArray} {maxL : Nat}
    (hy : plainName y.cls = true) (hw : w = Cond.code y cc maxL (some .long) :: w') (hav : (lg_sl av).length ≤ maxL)
    (body : ∀ X : xC, xk X l rm D cl tys cc y.cls w maxL → xel X cc 0 0 wf P → xw X 0 0 0 (lv_args 0 av) [] ws) : xMl l y w rm D cl tys ws av wf P := by
  intro sz
  refine Met.ofW (cc := cc) (maxL := maxL) (ret := some .long) hy hw ?_
  intro p e s m args below meth c s₁ B hml hv
  obtain ⟨rfl, hsz, hP, hK, hD0⟩ := hv
  have hx := B.exec
  have hb := B.bytes
  have hr := B.returns
  have hts := atoms_spec (ws := w) B.pre
  have hown : s.vm.findClass y.cls = some m.cls := findClass_of_methodNamed B.named
  have hlocks := B.notSynchronized
  subst hsz
  have hD := hD0.self (sz := s.heap.size)
  have hS : va_S (va_A ws s.heap.size) s.heap s.heap [] := va_S.rf
  have hl := lv_entry av (n := maxL) hav
  rw [lg_entry_eq]
  exact body ((p, l, e, rm, s, m, av.toArray, below, meth, c), (D, cl, va_A ws s.heap.size, tys, maxL, MQ below (va_Ql P (fun u t => xB D cl tys (va_A ws s.heap.size) (wf u) t) (va_A ws s.heap.size)) av.toArray s 0 0 (va_A ws s.heap.size)))
    ⟨rfl, rfl, rfl, rfl, rfl, hx, hb, hml, rfl, hown, hts, hK, fun q h => Or.inr h, hlocks⟩
    (by
      intro r u pc lv hp hd H locs ls hP hD hS hl
      exact W.lret (v := r) hx hb hr (fun t ht hW => ⟨⟨r, u, rfl, hp, by rw [ht]; exact hP, va_K.moved hW.alike hK, hD⟩, hS.F ht⟩) hS.2.2 hd)
    s.heap [] _ hP hD hS hl
theorem xTl_of {l : Launch} {y : MethodName} {w w' : List Cond} {rm : Room} {D : va_G} {cl : List vw_C} {tys : List (ClassId × FieldType)} {ws : va_W} {av : List Value} {own : String} {L : List (Nat × String)} {σ : Type} {wf : σ → va_W} {P : Int64 → σ → Prop} {T : String → Prop} {mc ms : Nat} {cc : ByteArray} {maxL : Nat}
    (hy : plainName y.cls = true) (hw : w = Cond.code y cc maxL (some .long) :: w') (hav : (lg_sl av).length ≤ maxL)
    (body : ∀ X : xC, xk X l rm D cl tys cc y.cls w maxL → xel X cc mc ms wf P → xth X ws own L T mc ms → xw X 0 0 0 (lv_args 0 av) [] ws) : xTl l y w rm D cl tys ws av own L wf P T mc ms := by
  intro sz
  refine vx_ofW (cc := cc) (maxL := maxL) (ret := some .long) hy hw ?_
  intro p e s m args below meth c s₁ B hml hno hv
  obtain ⟨rfl, hsz, hP, hK, hD0, hE⟩ := hv
  have hx := B.exec
  have hb := B.bytes
  have hr := B.returns
  have hts := atoms_spec (ws := w) B.pre
  have hown : s.vm.findClass y.cls = some m.cls := findClass_of_methodNamed B.named
  have hlocks := B.notSynchronized
  subst hsz
  have hD := hD0.self (sz := s.heap.size)
  have hS : va_S (va_A ws s.heap.size) s.heap s.heap [] := va_S.rf
  have hl := lv_entry av (n := maxL) hav
  rw [lg_entry_eq]
  exact body ((p, l, e, rm, s, m, av.toArray, below, meth, c), (D, cl, va_A ws s.heap.size, tys, maxL, vx_MQ below (va_Ql P (fun u t => xB D cl tys (va_A ws s.heap.size) (wf u) t) (va_A ws s.heap.size)) (vx_X (fun _ : Unit => True) (fun E _ t => T E ∧ xB D cl tys (va_A ws s.heap.size) ws t) (va_A ws s.heap.size)) av.toArray s mc ms (va_A ws s.heap.size)))
    ⟨rfl, rfl, rfl, rfl, rfl, hx, hb, hml, rfl, hown, hts, hK, fun q h => Or.inr h, hlocks⟩
    (by
      intro r u pc lv hp hd H locs ls hP hD hS hl
      exact vx_ret (W.lret (v := r) hx hb hr (fun t ht hW => ⟨⟨r, u, rfl, hp, by rw [ht]; exact hP, va_K.moved hW.alike hK, hD⟩, hS.F ht⟩) hS.2.2 hd))
    ⟨hE, fun x hx => absurd (hno x hx) id, fun E hT => ⟨fun t h1 h2 h3 => ⟨(), trivial, ⟨hT, h1, va_K.moved h3 hK, hD⟩, h2⟩, _, rfl⟩⟩
    s.heap [] _ hP hD hS hl
def xMv (l : Launch) (y : MethodName) (w : List Cond) (rm : Room) (D : va_G) (cl : List vw_C) (tys : List (ClassId × FieldType)) (ws : va_W) (av : List Value) {σ : Type} (wf : σ → va_W) (P : σ → Prop) : Prop := ∀ sz : Nat, Met l y w rm (xPre D cl tys ws sz av) (va_Qv P (fun u t => xB D cl tys (va_A ws sz) (wf u) t) (va_A ws sz)) 0 0 (va_A ws sz)
/-- the same, or it throws an exception of a class that T names, with its world as it was -/
def xTv (l : Launch) (y : MethodName) (w : List Cond) (rm : Room) (D : va_G) (cl : List vw_C) (tys : List (ClassId × FieldType)) (ws : va_W) (av : List Value) (own : String) (L : List (Nat × String)) {σ : Type} (wf : σ → va_W) (P : σ → Prop) (T : String → Prop) (mc ms : Nat) : Prop := ∀ sz : Nat, vx_Met l y w rm (xPreT D cl tys ws sz av own L) (va_Qv P (fun u t => xB D cl tys (va_A ws sz) (wf u) t) (va_A ws sz)) (vx_X (fun _ : Unit => True) (fun E _ t => T E ∧ xB D cl tys (va_A ws sz) ws t) (va_A ws sz)) mc ms (va_A ws sz)
/-- the way out of a method -/
def xev (X : xC) (cc : ByteArray) (mc ms : Nat) {σ : Type} (wf : σ → va_W) (P : σ → Prop) : Prop := ∀ (u : σ) (pc : Nat) (lv : List (Nat × Value)), P u → decode cc pc = .ok (.return_, 1) → xw X mc ms pc lv [] (wf u)
theorem xMv_of {l : Launch} {y : MethodName} {w w' : List Cond} {rm : Room} {D : va_G} {cl : List vw_C} {tys : List (ClassId × FieldType)} {ws : va_W} {av : List Value} {σ : Type} {wf : σ → va_W} {P : σ → Prop} {cc : ByteArray} {maxL : Nat}
    (hy : plainName y.cls = true) (hw : w = Cond.code y cc maxL (none) :: w') (hav : (lg_sl av).length ≤ maxL)
    (body : ∀ X : xC, xk X l rm D cl tys cc y.cls w maxL → xev X cc 0 0 wf P → xw X 0 0 0 (lv_args 0 av) [] ws) : xMv l y w rm D cl tys ws av wf P := by
  intro sz
  refine Met.ofW (cc := cc) (maxL := maxL) (ret := none) hy hw ?_
  intro p e s m args below meth c s₁ B hml hv
  obtain ⟨rfl, hsz, hP, hK, hD0⟩ := hv
  have hx := B.exec
  have hb := B.bytes
  have hr := B.returns
  have hts := atoms_spec (ws := w) B.pre
  have hown : s.vm.findClass y.cls = some m.cls := findClass_of_methodNamed B.named
  have hlocks := B.notSynchronized
  subst hsz
  have hD := hD0.self (sz := s.heap.size)
  have hS : va_S (va_A ws s.heap.size) s.heap s.heap [] := va_S.rf
  have hl := lv_entry av (n := maxL) hav
  rw [lg_entry_eq]
  exact body ((p, l, e, rm, s, m, av.toArray, below, meth, c), (D, cl, va_A ws s.heap.size, tys, maxL, MQ below (va_Qv P (fun u t => xB D cl tys (va_A ws s.heap.size) (wf u) t) (va_A ws s.heap.size)) av.toArray s 0 0 (va_A ws s.heap.size)))
    ⟨rfl, rfl, rfl, rfl, rfl, hx, hb, hml, rfl, hown, hts, hK, fun q h => Or.inr h, hlocks⟩
    (by
      intro u pc lv hp hd H locs ls hP hD hS hl
      exact W.vret hx hb hr (fun t ht hW => ⟨⟨u, rfl, hp, by rw [ht]; exact hP, va_K.moved hW.alike hK, hD⟩, hS.F ht⟩) hS.2.2 hd)
    s.heap [] _ hP hD hS hl
theorem xTv_of {l : Launch} {y : MethodName} {w w' : List Cond} {rm : Room} {D : va_G} {cl : List vw_C} {tys : List (ClassId × FieldType)} {ws : va_W} {av : List Value} {own : String} {L : List (Nat × String)} {σ : Type} {wf : σ → va_W} {P : σ → Prop} {T : String → Prop} {mc ms : Nat} {cc : ByteArray} {maxL : Nat}
    (hy : plainName y.cls = true) (hw : w = Cond.code y cc maxL (none) :: w') (hav : (lg_sl av).length ≤ maxL)
    (body : ∀ X : xC, xk X l rm D cl tys cc y.cls w maxL → xev X cc mc ms wf P → xth X ws own L T mc ms → xw X 0 0 0 (lv_args 0 av) [] ws) : xTv l y w rm D cl tys ws av own L wf P T mc ms := by
  intro sz
  refine vx_ofW (cc := cc) (maxL := maxL) (ret := none) hy hw ?_
  intro p e s m args below meth c s₁ B hml hno hv
  obtain ⟨rfl, hsz, hP, hK, hD0, hE⟩ := hv
  have hx := B.exec
  have hb := B.bytes
  have hr := B.returns
  have hts := atoms_spec (ws := w) B.pre
  have hown : s.vm.findClass y.cls = some m.cls := findClass_of_methodNamed B.named
  have hlocks := B.notSynchronized
  subst hsz
  have hD := hD0.self (sz := s.heap.size)
  have hS : va_S (va_A ws s.heap.size) s.heap s.heap [] := va_S.rf
  have hl := lv_entry av (n := maxL) hav
  rw [lg_entry_eq]
  exact body ((p, l, e, rm, s, m, av.toArray, below, meth, c), (D, cl, va_A ws s.heap.size, tys, maxL, vx_MQ below (va_Qv P (fun u t => xB D cl tys (va_A ws s.heap.size) (wf u) t) (va_A ws s.heap.size)) (vx_X (fun _ : Unit => True) (fun E _ t => T E ∧ xB D cl tys (va_A ws s.heap.size) ws t) (va_A ws s.heap.size)) av.toArray s mc ms (va_A ws s.heap.size)))
    ⟨rfl, rfl, rfl, rfl, rfl, hx, hb, hml, rfl, hown, hts, hK, fun q h => Or.inr h, hlocks⟩
    (by
      intro u pc lv hp hd H locs ls hP hD hS hl
      exact vx_ret (W.vret hx hb hr (fun t ht hW => ⟨⟨u, rfl, hp, by rw [ht]; exact hP, va_K.moved hW.alike hK, hD⟩, hS.F ht⟩) hS.2.2 hd))
    ⟨hE, fun x hx => absurd (hno x hx) id, fun E hT => ⟨fun t h1 h2 h3 => ⟨(), trivial, ⟨hT, h1, va_K.moved h3 hK, hD⟩, h2⟩, _, rfl⟩⟩
    s.heap [] _ hP hD hS hl
def xMz (l : Launch) (y : MethodName) (w : List Cond) (rm : Room) (D : va_G) (cl : List vw_C) (tys : List (ClassId × FieldType)) (ws : va_W) (av : List Value) {σ : Type} (wf : σ → va_W) (P : Int32 → σ → Prop) : Prop := ∀ sz : Nat, Met l y w rm (xPre D cl tys ws sz av) (va_Qi P (fun u t => xB D cl tys (va_A ws sz) (wf u) t) (va_A ws sz)) 0 0 (va_A ws sz)
/-- the same, or it throws an exception of a class that T names, with its world as it was -/
def xTz (l : Launch) (y : MethodName) (w : List Cond) (rm : Room) (D : va_G) (cl : List vw_C) (tys : List (ClassId × FieldType)) (ws : va_W) (av : List Value) (own : String) (L : List (Nat × String)) {σ : Type} (wf : σ → va_W) (P : Int32 → σ → Prop) (T : String → Prop) (mc ms : Nat) : Prop := ∀ sz : Nat, vx_Met l y w rm (xPreT D cl tys ws sz av own L) (va_Qi P (fun u t => xB D cl tys (va_A ws sz) (wf u) t) (va_A ws sz)) (vx_X (fun _ : Unit => True) (fun E _ t => T E ∧ xB D cl tys (va_A ws sz) ws t) (va_A ws sz)) mc ms (va_A ws sz)
def xbool (r : Int32) : Prop := narrow .boolean (.int r) = .int r
/-- the way out of a method -/
def xez (X : xC) (cc : ByteArray) (mc ms : Nat) {σ : Type} (wf : σ → va_W) (P : Int32 → σ → Prop) : Prop := ∀ (r : Int32) (u : σ) (pc : Nat) (lv : List (Nat × Value)), P r u → xbool r → decode cc pc = .ok (.ireturn, 1) → xw X mc ms pc lv [.int r] (wf u)
theorem xMz_of {l : Launch} {y : MethodName} {w w' : List Cond} {rm : Room} {D : va_G} {cl : List vw_C} {tys : List (ClassId × FieldType)} {ws : va_W} {av : List Value} {σ : Type} {wf : σ → va_W} {P : Int32 → σ → Prop} {cc : ByteArray} {maxL : Nat}
    (hy : plainName y.cls = true) (hw : w = Cond.code y cc maxL (some .boolean) :: w') (hav : (lg_sl av).length ≤ maxL)
    (body : ∀ X : xC, xk X l rm D cl tys cc y.cls w maxL → xez X cc 0 0 wf P → xw X 0 0 0 (lv_args 0 av) [] ws) : xMz l y w rm D cl tys ws av wf P := by
  intro sz
  refine Met.ofW (cc := cc) (maxL := maxL) (ret := some .boolean) hy hw ?_
  intro p e s m args below meth c s₁ B hml hv
  obtain ⟨rfl, hsz, hP, hK, hD0⟩ := hv
  have hx := B.exec
  have hb := B.bytes
  have hr := B.returns
  have hts := atoms_spec (ws := w) B.pre
  have hown : s.vm.findClass y.cls = some m.cls := findClass_of_methodNamed B.named
  have hlocks := B.notSynchronized
  subst hsz
  have hD := hD0.self (sz := s.heap.size)
  have hS : va_S (va_A ws s.heap.size) s.heap s.heap [] := va_S.rf
  have hl := lv_entry av (n := maxL) hav
  rw [lg_entry_eq]
  exact body ((p, l, e, rm, s, m, av.toArray, below, meth, c), (D, cl, va_A ws s.heap.size, tys, maxL, MQ below (va_Qi P (fun u t => xB D cl tys (va_A ws s.heap.size) (wf u) t) (va_A ws s.heap.size)) av.toArray s 0 0 (va_A ws s.heap.size)))
    ⟨rfl, rfl, rfl, rfl, rfl, hx, hb, hml, rfl, hown, hts, hK, fun q h => Or.inr h, hlocks⟩
    (by
      intro r u pc lv hp hn hd H locs ls hP hD hS hl
      exact W.zret (v := r) hx hb hr hn (fun t ht hW => ⟨⟨r, u, rfl, hp, by rw [ht]; exact hP, va_K.moved hW.alike hK, hD⟩, hS.F ht⟩) hS.2.2 hd)
    s.heap [] _ hP hD hS hl
theorem xTz_of {l : Launch} {y : MethodName} {w w' : List Cond} {rm : Room} {D : va_G} {cl : List vw_C} {tys : List (ClassId × FieldType)} {ws : va_W} {av : List Value} {own : String} {L : List (Nat × String)} {σ : Type} {wf : σ → va_W} {P : Int32 → σ → Prop} {T : String → Prop} {mc ms : Nat} {cc : ByteArray} {maxL : Nat}
    (hy : plainName y.cls = true) (hw : w = Cond.code y cc maxL (some .boolean) :: w') (hav : (lg_sl av).length ≤ maxL)
    (body : ∀ X : xC, xk X l rm D cl tys cc y.cls w maxL → xez X cc mc ms wf P → xth X ws own L T mc ms → xw X 0 0 0 (lv_args 0 av) [] ws) : xTz l y w rm D cl tys ws av own L wf P T mc ms := by
  intro sz
  refine vx_ofW (cc := cc) (maxL := maxL) (ret := some .boolean) hy hw ?_
  intro p e s m args below meth c s₁ B hml hno hv
  obtain ⟨rfl, hsz, hP, hK, hD0, hE⟩ := hv
  have hx := B.exec
  have hb := B.bytes
  have hr := B.returns
  have hts := atoms_spec (ws := w) B.pre
  have hown : s.vm.findClass y.cls = some m.cls := findClass_of_methodNamed B.named
  have hlocks := B.notSynchronized
  subst hsz
  have hD := hD0.self (sz := s.heap.size)
  have hS : va_S (va_A ws s.heap.size) s.heap s.heap [] := va_S.rf
  have hl := lv_entry av (n := maxL) hav
  rw [lg_entry_eq]
  exact body ((p, l, e, rm, s, m, av.toArray, below, meth, c), (D, cl, va_A ws s.heap.size, tys, maxL, vx_MQ below (va_Qi P (fun u t => xB D cl tys (va_A ws s.heap.size) (wf u) t) (va_A ws s.heap.size)) (vx_X (fun _ : Unit => True) (fun E _ t => T E ∧ xB D cl tys (va_A ws s.heap.size) ws t) (va_A ws s.heap.size)) av.toArray s mc ms (va_A ws s.heap.size)))
    ⟨rfl, rfl, rfl, rfl, rfl, hx, hb, hml, rfl, hown, hts, hK, fun q h => Or.inr h, hlocks⟩
    (by
      intro r u pc lv hp hn hd H locs ls hP hD hS hl
      exact vx_ret (W.zret (v := r) hx hb hr hn (fun t ht hW => ⟨⟨r, u, rfl, hp, by rw [ht]; exact hP, va_K.moved hW.alike hK, hD⟩, hS.F ht⟩) hS.2.2 hd))
    ⟨hE, fun x hx => absurd (hno x hx) id, fun E hT => ⟨fun t h1 h2 h3 => ⟨(), trivial, ⟨hT, h1, va_K.moved h3 hK, hD⟩, h2⟩, _, rfl⟩⟩
    s.heap [] _ hP hD hS hl
