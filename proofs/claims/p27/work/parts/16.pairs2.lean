/-! tintingsByPairs, constructors -/
def wX0J (cI cJ cZ cA : ClassId) (V : Nat → Nat) (land : Nat → Int64) (there : Int32) (near worn trial fits : Nat → Int32) (ways : Nat → Int64) (joined : Nat → Nat → Int32) : va_W := wX0 cI cJ cZ cA V land there near worn trial fits ways ++ wJ cI cA (V 7) (fun k => V (k + 8)) joined
def q_X0_tintingsByPairs (p1 : Int32) (near : Nat → Int32) (there : Int32) (joined : Nat → Nat → Int32) (P : Int64 → (Nat → Nat → Int32) → Prop) (T : String → Prop) : Prop := q_X0_checkNumberOfTints p1 (q_X0_countByPairs 12 (0 : Int32) there p1 (upd2 joined 0 (va_cpy near (joined 0) 0 0 10)) P) T
abbrev rm_X0_tintingsByPairs : Room := { frames := 26, cells := 1, slots := 6, locals := 900 }
theorem inX0_tintingsByPairs : ∀ w ∈ u_ws RX0 TX0 8, w ∈ wsX0_tintingsByPairs := by decide +kernel
set_option maxHeartbeats 4000000 in
set_option maxRecDepth 100000 in
theorem c_X0_tintingsByPairs (l : Launch) (D : va_G) (cI cJ cZ cA : ClassId) (hst : l.stackTraces = false) (V : Nat → Nat) (p1 : Int32) (land : Nat → Int64) (there : Int32) (near worn trial fits : Nat → Int32) (ways : Nat → Int64) (joined : Nat → Nat → Int32) (P : Int64 → (Nat → Nat → Int32) → Prop) (T : String → Prop) (h : q_X0_tintingsByPairs p1 near there joined P T) : xTl l yX0_tintingsByPairs wsX0_tintingsByPairs rm_X0_tintingsByPairs D vwCl (xtys cI cJ cZ cA) (wX0J cI cJ cZ cA V land there near worn trial fits ways joined) [.ref (V 0), .int p1] RX0 [(189, "there are not so many tints")] (σ := Nat → Nat → Int32) (fun u => wX0J cI cJ cZ cA V land there near worn trial fits ways u) (fun r u => P r u) T 1 6 := by
  refine xTl_of (cc := cX0_tintingsByPairs) (maxL := 2) (by decide) rfl (Nat.le_of_ble_eq_true rfl) ?_
  intro X K hE hth
  have K : xk X l rm_X0_tintingsByPairs D vwCl (xtys cI cJ cZ cA) cX0_tintingsByPairs RX0 wsX0_tintingsByPairs 2 := K
  unfold q_X0_tintingsByPairs at h
  refine x_iload_n (pc := 0) K dX0_tintingsByPairs_0 1 rfl rfl ?_
  refine x_ptcallSv (pc := 1) (n := 1) K (xth_E hth) (by decide) (c_X0_checkNumberOfTints l D cI cJ cZ cA hst p1 _ T h) rfl rfl gX0_tintingsByPairs_X0_checkNumberOfTints rfl (by decide +kernel) ⟨Nat.le_of_ble_eq_true rfl, Nat.le_of_ble_eq_true rfl⟩ rfl (av := [.int p1]) rfl (Nat.le_of_ble_eq_true rfl) dX0_tintingsByPairs_1 ⟨Nat.le_of_ble_eq_true rfl, Nat.le_of_ble_eq_true rfl⟩ (fun E hT => x_out K hth hT (Nat.le_of_ble_eq_true rfl) (Nat.le_of_ble_eq_true rfl)) (fun u9 h => ?_)
  refine x_aload_n (pc := 4) K dX0_tintingsByPairs_4 0 rfl rfl ?_
  refine x_get (pc := 5) (ci := 0) (C := RX0) (T := TX0) (N := 8) K inX0_tintingsByPairs 0 rfl rfl 2 (by decide) (show Cond.fieldLink RX0 17 "FourTints" "near" "[I" ∈ wsX0_tintingsByPairs by decide +kernel) rfl rfl dX0_tintingsByPairs_5 ?_
  refine x_iconst (v := 0) (pc := 8) K dX0_tintingsByPairs_8 (by decide) ?_
  refine x_aload_n (pc := 9) K dX0_tintingsByPairs_9 0 rfl rfl ?_
  refine x_get (pc := 10) (ci := 0) (C := RX0) (T := TX0) (N := 8) K inX0_tintingsByPairs 0 rfl rfl 7 (by decide) (show Cond.fieldLink RX0 36 "FourTints" "joined" "[[I" ∈ wsX0_tintingsByPairs by decide +kernel) rfl rfl dX0_tintingsByPairs_10 ?_
  refine x_iconst (v := 0) (pc := 13) K dX0_tintingsByPairs_13 (by decide) ?_
  refine x_aaldR (pc := 14) K 7 3 rfl rfl rfl (by decide) dX0_tintingsByPairs_14 ?_
  refine x_iconst (v := 0) (pc := 15) K dX0_tintingsByPairs_15 (by decide) ?_
  refine x_bipush (v := 10) (pc := 16) K dX0_tintingsByPairs_16 (by decide) ?_
  refine x_copyi (pc := 18) (index := 168) (ws' := wX0J cI cJ cZ cA V land there near worn trial fits ways (upd2 joined 0 (va_cpy near (joined 0) 0 0 10))) K (by decide +kernel) (by decide +kernel) (by decide +kernel) (by decide +kernel) 2 8 0 rfl rfl rfl rfl (by decide) (by decide) (by decide) (by decide) (by decide) ⟨Nat.le_of_ble_eq_true rfl, by decide +kernel⟩ dX0_tintingsByPairs_18 rfl ?_
  refine x_aload_n (pc := 21) K dX0_tintingsByPairs_21 0 rfl rfl ?_
  refine x_get (pc := 22) (ci := 0) (C := RX0) (T := TX0) (N := 8) K inX0_tintingsByPairs 0 rfl rfl 7 (by decide) (show Cond.fieldLink RX0 36 "FourTints" "joined" "[[I" ∈ wsX0_tintingsByPairs by decide +kernel) rfl rfl dX0_tintingsByPairs_22 ?_
  refine x_iconst (v := 0) (pc := 25) K dX0_tintingsByPairs_25 (by decide) ?_
  refine x_aload_n (pc := 26) K dX0_tintingsByPairs_26 0 rfl rfl ?_
  refine x_get (pc := 27) (ci := 0) (C := RX0) (T := TX0) (N := 8) K inX0_tintingsByPairs 0 rfl rfl 1 (by decide) (show Cond.fieldLink RX0 13 "FourTints" "there" "I" ∈ wsX0_tintingsByPairs by decide +kernel) rfl rfl dX0_tintingsByPairs_27 ?_
  refine x_iload_n (pc := 30) K dX0_tintingsByPairs_30 1 rfl rfl ?_
  refine x_callSl (pc := 31) (n := 4) K (c_X0_countByPairs l D cI cJ cZ cA 12 (V 7) (fun k => V (k + 8)) 0 there p1 _ _ h) rfl rfl gX0_tintingsByPairs_X0_countByPairs rfl (by decide +kernel) ⟨Nat.le_of_ble_eq_true rfl, Nat.le_of_ble_eq_true rfl⟩ rfl (av := [.ref (V 7), .int 0, .int there, .int p1]) rfl (Nat.le_of_ble_eq_true rfl) [7, 8, 9, 10, 11, 12, 13, 14, 15, 16, 17] [0, 1, 2, 3, 4, 5, 6] (wr := wX0 cI cJ cZ cA V land there near worn trial fits ways) rfl rfl rfl rfl (by decide) dX0_tintingsByPairs_31 ⟨Nat.le_of_ble_eq_true rfl, Nat.le_of_ble_eq_true rfl⟩ (fun r u h => ?_)
  refine x_ws (ws' := wX0J cI cJ cZ cA V land there near worn trial fits ways u) rfl ?_
  exact hE r u _ _ h dX0_tintingsByPairs_34

/-- the class of int[][] is there -/
def xAOA (U : State) : Prop := (Cond.arrayOver (.array .int)).before #[] U = true
theorem xAOA_same {u U : State} (hv : U.vm = u.vm) (h : xAOA u) : xAOA U := by
  unfold xAOA Cond.before Cond.holds at h ⊢
  simp only [Cond.value] at h ⊢
  rw [hv]
  exact h
theorem xAOA_spec {args : Array Value} {s : State} (h : (Cond.arrayOver (.array .int)).before args s = true) :
    ∃ comp c k, s.vm.findClass (FieldType.array .int).toString = some comp ∧ (s.vm.classes.findIdx? fun (x : Class) => match x.kind with | .array component _ => component == comp | _ => false) = some c ∧ s.vm.classes[c]? = some k ∧ k.kind = .array comp (.array .int) ∧ s.vm.findClass ("[" ++ (FieldType.array .int).toString) = some c := by
  unfold Cond.before at h
  simp only [Cond.holds, Cond.value, beq_iff_eq] at h
  cases hc : s.vm.findClass (FieldType.array .int).toString with
  | none => simp [hc] at h
  | some comp =>
    simp only [hc, Option.bind_some, Option.bind_eq_some_iff, Option.map_eq_some_iff] at h
    obtain ⟨c, hi, k, hk, hb⟩ := h
    obtain ⟨hlt, hp, -⟩ := Array.findIdx?_eq_some_iff_getElem.mp hi
    have hkk : s.vm.classes[c] = k := (Array.getElem?_eq_some_iff.mp hk).2
    rw [hkk] at hp
    cases hkind : k.kind with
    | array component ty =>
      rw [hkind] at hb hp
      simp at hb hp
      exact ⟨comp, c, k, rfl, hi, hk, by rw [hkind, hp, hb.1], hb.2⟩
    | _ => rw [hkind] at hb; simp at hb
theorem xAOA_moved {u U : State} (hvm : u.vm.Alike U.vm) (h : xAOA u) : xAOA U := by
  obtain ⟨comp, c, k, h1, h2, h3, h4, h5⟩ := xAOA_spec h
  obtain ⟨k', hk', he⟩ := hvm.2.2 _ _ h3
  have hi : (U.vm.classes.findIdx? fun (x : Class) => match x.kind with | .array component _ => component == comp | _ => false) = some c := by
    refine (va_idx_bare U.vm comp).symm.trans ?_
    first | rw [hvm.bare_eq] | rw [← hvm.bare_eq]
    exact (va_idx_bare u.vm comp).trans h2
  have hkind : k'.kind = .array comp (.array .int) := by rw [he]; exact h4
  have f1 : U.vm.findClass (FieldType.array .int).toString = some comp := by rw [hvm.findClass]; exact h1
  have f2 : U.vm.findClass ("[" ++ (FieldType.array .int).toString) = some c := by rw [hvm.findClass]; exact h5
  unfold xAOA Cond.before
  simp only [Cond.holds, Cond.value, f1, Option.bind_some, beq_iff_eq]
  rw [Option.bind_eq_some_iff]
  exact ⟨c, hi, by simp [hk', hkind, f2]⟩
theorem xAOA_args {args : Array Value} {U : State} (h : xAOA U) : (Cond.arrayOver (.array .int)).before args U = true := h
def xPreC (D : va_G) (cl : List vw_C) (tys : List (ClassId × FieldType)) (ws : va_W) (sz : Nat) (av : List Value) : Array Value → State → Prop := va_Pc av (fun U => U.heap.size = sz ∧ va_P D cl ws U.heap ∧ va_K D cl tys U ∧ va_D (fun _ => True) ws ∧ xAOA U)
theorem xPreC_blind {D : va_G} {cl : List vw_C} {tys : List (ClassId × FieldType)} {ws : va_W} {sz : Nat} {av : List Value} : FrameBlind (xPreC D cl tys ws sz av) := fun a U g mk q => by
  obtain ⟨q0, q1, qP, qK, qD, e⟩ := q
  exact ⟨q0, q1, qP, va_K.moved (u := U) (U := U.calling g mk a) (Vm.Alike.refl U.vm) qK, qD, xAOA_same (u := U) (U := U.calling g mk a) rfl e⟩
/-- a constructor's contract -/
def xCon (l : Launch) (y : MethodName) (w : List Cond) (rm : Room) (D : va_G) (cl : List vw_C) (tys : List (ClassId × FieldType)) (ws : va_W) (av : List Value) {σ : Type} (wf : σ → va_W) (P : σ → Prop) (mc ms : Nat) : Prop := ∀ sz : Nat, Met l y w rm (xPreC D cl tys ws sz av) (va_Qv P (fun u t => xB D cl tys (va_A ws sz) (wf u) t) (va_A ws sz)) mc ms (va_A ws sz)
def xni : xC → Prop
  | ((_, _, _, _, s, _, _, _, meth, _), _) => meth.name = "<init>" ∧ xAOA s
theorem xC_of {l : Launch} {y : MethodName} {w w' : List Cond} {rm : Room} {D : va_G} {cl : List vw_C} {tys : List (ClassId × FieldType)} {ws : va_W} {av : List Value} {σ : Type} {wf : σ → va_W} {P : σ → Prop} {mc ms : Nat} {cc : ByteArray} {maxL : Nat}
    (hy : plainName y.cls = true) (hin : y.name = "<init>") (hw : w = Cond.code y cc maxL (none) :: w') (hav : (lg_sl av).length ≤ maxL)
    (body : ∀ X : xC, xk X l rm D cl tys cc y.cls w maxL → xni X → xev X cc mc ms wf P → xw X 0 0 0 (lv_args 0 av) [] ws) : xCon l y w rm D cl tys ws av wf P mc ms := by
  intro sz
  refine Met.ofW (cc := cc) (maxL := maxL) (ret := none) hy hw ?_
  intro p e s m args below meth c s₁ B hml hv
  obtain ⟨rfl, hsz, hP, hK, hD0, hao⟩ := hv
  have hx := B.exec
  have hb := B.bytes
  have hr := B.returns
  have hts := atoms_spec (ws := w) B.pre
  have hown : s.vm.findClass y.cls = some m.cls := findClass_of_methodNamed B.named
  have hnm : meth.name = "<init>" := (name_of_methodNamed B.named B.method).1.trans hin
  have hlocks := B.notSynchronized
  subst hsz
  have hD := hD0.self (sz := s.heap.size)
  have hS : va_S (va_A ws s.heap.size) s.heap s.heap [] := va_S.rf
  have hl := lv_entry av (n := maxL) hav
  rw [lg_entry_eq]
  exact body ((p, l, e, rm, s, m, av.toArray, below, meth, c), (D, cl, va_A ws s.heap.size, tys, maxL, MQ below (va_Qv P (fun u t => xB D cl tys (va_A ws s.heap.size) (wf u) t) (va_A ws s.heap.size)) av.toArray s mc ms (va_A ws s.heap.size)))
    ⟨rfl, rfl, rfl, rfl, rfl, hx, hb, hml, rfl, hown, hts, hK, fun q h => Or.inr h, hlocks⟩ ⟨hnm, hao⟩
    (by
      intro u pc lv hp hd H locs ls hP hD hS hl
      exact W.vret hx hb hr (fun t ht hW => ⟨⟨u, rfl, hp, by rw [ht]; exact hP, va_K.moved hW.alike hK, hD⟩, hS.F ht⟩) hS.2.2 hd)
    s.heap [] _ hP hD hS hl
section XN
variable {X : xC} {l0 : Launch} {R0 : Room} {D0 : va_G} {cl0 : List vw_C} {tys0 : List (ClassId × FieldType)} {cc : ByteArray} {own : String} {Ts : List Cond} {nL cells slots pc : Nat} {lv lv' : List (Nat × Value)} {st : List Value} {ws : va_W}
theorem x_objInit (K : xk X l0 R0 D0 cl0 tys0 cc own Ts nL) {idx a : Nat} (hlink : Cond.methodLink own idx objectInit ∈ Ts) (hinst : Cond.instanceMethod objectInit ∈ Ts) (hcode : Cond.code objectInit ⟨#[0xb1]⟩ 1 none ∈ Ts) (hR : 1 ≤ R0.frames ∧ (st.map fun v => v.category).sum + 12 ≤ R0.locals) (d : decode cc pc = .ok (.invokespecial idx, 3)) (kk : xw X cells slots (pc + 3) lv st ws) : xw X cells slots pc lv (.ref a :: st) ws := by
  obtain ⟨⟨p, l, e, R, s, m, args, below, meth, c⟩, ⟨D, cl, A, tys, nX, Q⟩⟩ := X
  obtain ⟨rfl, rfl, rfl, rfl, rfl, hx, hb, hml, rfl, hown, hts, hK, hA, hlk⟩ := K
  intro H locs ls hP hD hS hl
  exact W.objInit hx hb hown (hts _ hlink) (hts _ hinst) (hts _ hcode) rfl (by rw [hml]; exact hl.1) rfl d hR.1 (by show 2 * 0 + _ + 12 ≤ _; omega) (kk H locs ls hP hD hS hl)
theorem x_newa (K : xk X l0 R0 D0 cl0 tys0 cc own Ts nL) {atype : ArrayType} {ty : FieldType} {cA : ClassId} {n : Int32} {N : Nat} {a0 : vp_A} (t0 : Nat) (ht : tys0[t0]? = some (cA, ty)) (hprim : ∀ (U : State) (c : ClassId), va_RA U c ty → U.vm.findClass ("[" ++ ty.toString) = some c) (harr : Cond.arrayClass (newarray.typeOf atype) ∈ Ts) (hty : newarray.typeOf atype = ty) (ha : ∀ cA : ClassId, vp_cell cA a0 = arrV cA N (fun _ => defaultValue ty)) (hn : ¬ n < 0) (hN : n.toNatClampNeg = N) (hbytes : N * componentBytes ty ≤ 536870912) (hcells : cells + 1 ≤ R0.cells) (hslots : slots + N ≤ R0.slots) (d : decode cc pc = .ok (.newarray atype, 2))
    (kk : ∀ q : Nat, xw X (cells + 1) (slots + N) (pc + 2) lv (.ref q :: st) (ws ++ [(q, .inl (cA, a0))])) : xw X cells slots pc lv (.int n :: st) ws := by
  obtain ⟨⟨p, l, e, R, s, m, args, below, meth, c⟩, ⟨D, cl, A, tys, nX, Q⟩⟩ := X
  obtain ⟨rfl, rfl, rfl, rfl, rfl, hx, hb, hml, rfl, hown, hts, hK, hA, hlk⟩ := K
  intro H locs ls hP hD hS hl
  refine va_newa hx hb (hts _ harr) hty hK hP hD hS hA ha hn hN hbytes hcells hslots d (fun q cA' H1 hK1 hP1 hD1 hS1 => ?_)
  have e1 := hprim _ _ (hK.2 t0 _ ht).2
  have e2 := hprim _ _ (hK1.2 tys.length (cA', ty) (by rw [List.getElem?_append_right (Nat.le_refl _), Nat.sub_self]; rfl)).2
  have e3 : cA' = cA := Option.some.inj (e2.symm.trans e1)
  subst e3
  exact kk q H1 locs ls hP1 hD1 hS1 hl
theorem x_putF (K : xk X l0 R0 D0 cl0 tys0 cc own Ts nL) (hni : xni X) {ref C : String} {T : u_T} {N ci index a : Nat} {fs : List Value} {v : Value} {ws' : va_W} (hin : ∀ w ∈ u_ws C T N, w ∈ Ts) (ty0 : Nat → FieldType) (hty : ∀ k, k < N → parseFieldDescriptor (T k).2.2.1 = some (ty0 k)) (hnm : ∀ a, a < N → ∀ b, b < N → a ≠ b → (T a).2.1 ≠ (T b).2.1) (q0 : Nat) (hc : cl0[ci]? = some (C, T, N)) (he : ws[q0]? = some (a, .inr (ci, fs))) (k : Nat) (hk : k < N) (hlink : Cond.fieldLink own index ref (T k).2.1 (T k).2.2.1 ∈ Ts) (hs : (T k).1 = ref) (hfin : (T k).2.2.2 = true) (hdecl : (T k).1 = own) {ty : FieldType} (hd : parseFieldDescriptor (T k).2.2.1 = some ty) (hn : narrow ty v = v) (hfit : fits ty v = true) (hlen : k < fs.length) (hw : ws.set q0 (a, .inr (ci, fs.set k v)) = ws') (d : decode cc pc = .ok (.putfield index, 3)) (kk : xw X cells slots (pc + 3) lv st ws') : xw X cells slots pc lv (v :: .ref a :: st) ws := by
  obtain ⟨⟨p, l, e, R, s, m, args, below, meth, c⟩, ⟨D, cl, A, tys, nX, Q⟩⟩ := X
  obtain ⟨rfl, rfl, rfl, rfl, rfl, hx, hb, hml, rfl, hown, hts, hK, hA, hlk⟩ := K
  intro H locs ls hP hD hS hl
  subst hs
  subst hw
  exact va_putF hx hb hts hin ty0 hty hnm hown hK hP hD hS q0 he hc k hk (hts _ hlink) (fun _ h => h) hfin hni.1 hdecl hd hn hfit hlen d (fun H locs hP hD hS => kk H locs ls hP hD hS hl)
theorem x_mna (K : xk X l0 R0 D0 cl0 tys0 cc own Ts nL) (hni : xni X) {index : Nat} {cI cA : ClassId} (t0 t1 : Nat) (ht0 : tys0[t0]? = some (cI, .int)) (ht1 : tys0[t1]? = some (cA, .array .int)) (hlink : Cond.classLink own index "[[I" ∈ Ts) (harr : Cond.arrayClass .int ∈ Ts) (hcells : cells + 11 ≤ R0.cells) (hslots : slots + 110 ≤ R0.slots) (d : decode cc pc = .ok (.multianewarray index 2, 4))
    (kk : ∀ (q : Nat) (r : Nat → Nat), xw X (cells + 11) (slots + 110) (pc + 4) lv (.ref q :: st) (ws ++ wJ cI cA q r (fun _ _ => 0))) : xw X cells slots pc lv (.int 10 :: .int 10 :: st) ws := by
  obtain ⟨⟨p, l, e, R, s, m, args, below, meth, c⟩, ⟨D, cl, A, tys, nX, Q⟩⟩ := X
  obtain ⟨rfl, rfl, rfl, rfl, rfl, hx, hb, hml, rfl, hown, hts, hK, hA, hlk⟩ := K
  intro H locs ls hP hD hS hl
  have hcI : s.vm.findClass "[I" = some cI := (hK.2 t0 _ ht0).2
  have hcA : s.vm.findClass "[[I" = some cA := (hK.2 t1 _ ht1).2
  refine va_mna (X := ws) (L := []) (f := fun _ => .inl (cI, 10, .inl (fun _ => 0))) (z := (10, .inl (fun _ => 0))) (ty := .int) (cy := cI) (N' := 10) (K' := 10) hx hb hown (hts _ hlink) (xAOA_args hni.2) (hts _ harr) hcI hK (by rw [show va_pl [] _ = [] from rfl, List.append_nil]; exact hP) (by rw [show va_pl [] _ = [] from rfl, List.append_nil]; exact hD) hS hA (by decide) (by decide) rfl rfl (by decide) (by decide) (by decide) rfl rfl hcells hslots (fun c => rfl) d (fun q r cA' H1 _ _ hK1 hP1 hD1 hS1 => ?_)
  have e2 : s.vm.findClass "[[I" = some cA' := (hK1.2 tys.length (cA', .array .int) (by rw [List.getElem?_append_right (Nat.le_refl _), Nat.sub_self]; rfl)).2
  have e3 : cA' = cA := Option.some.inj (e2.symm.trans hcA)
  subst e3
  have hv : ∀ i, i < 10 → vr_up (fun _ => (.inl (cI, 10, .inl (fun _ => 0)) : va_E)) ((List.range 10).map r) (.inl (cI, (10, .inl (fun _ => 0)))) (r i) = .inl (cI, 10, .inl (fun _ => 0)) := fun i hi => vr_up_in (List.mem_map.mpr ⟨i, List.mem_range.mpr hi, rfl⟩)
  have hw : (ws ++ [(q, .inl (cA', 10, .inr (.inr (.inr (.inr (fun i => if i < 10 then some (r i) else none))))))]) ++ va_pl ([] ++ (List.range 10).map r) (vr_up (fun _ => .inl (cI, 10, .inl (fun _ => 0))) ((List.range 10).map r) (.inl (cI, (10, .inl (fun _ => 0))))) = ws ++ wJ cI cA' q r (fun _ _ => 0) := by
    rw [List.append_assoc]
    congr 1
    show _ :: va_pl [r 0, r 1, r 2, r 3, r 4, r 5, r 6, r 7, r 8, r 9] _ = _
    unfold va_pl wJ
    simp only [List.map_cons, List.map_nil]
    rw [hv 0 (by decide), hv 1 (by decide), hv 2 (by decide), hv 3 (by decide), hv 4 (by decide), hv 5 (by decide), hv 6 (by decide), hv 7 (by decide), hv 8 (by decide), hv 9 (by decide)]
  rw [hw] at hP1 hD1
  exact kk q r H1 locs ls hP1 hD1 hS1 hl
end XN
