/-! the world of the class; calls of methods without a world -/
abbrev xtys (cI cJ cZ cA : ClassId) : List (ClassId × FieldType) := [(cI, .int), (cJ, .long), (cZ, .boolean), (cA, .array .int)]
def wX0 (cI cJ cZ cA : ClassId) (V : Nat → Nat) (land : Nat → Int64) (there : Int32) (near worn trial fits : Nat → Int32) (ways : Nat → Int64) : va_W := [(V 0, .inr (0, [.ref (V 1), .int there, .ref (V 2), .ref (V 3), .ref (V 4), .ref (V 5), .ref (V 6), .ref (V 7)])), (V 1, .inl (cJ, 10, .inr (.inl land))), (V 2, .inl (cI, 10, .inl near)), (V 3, .inl (cI, 10, .inl worn)), (V 4, .inl (cI, 10, .inl trial)), (V 5, .inl (cZ, 1024, .inl fits)), (V 6, .inl (cJ, 1024, .inr (.inl ways)))]
theorem x_ws {X : xC} {cells slots pc : Nat} {lv : List (Nat × Value)} {st : List Value} {ws ws' : va_W} (h : ws = ws') (kk : xw X cells slots pc lv st ws') : xw X cells slots pc lv st ws := h ▸ kk
theorem x_emp {H : Heap} {sz q : Nat} (h : q < sz) : ¬ va_A [] sz q := by
  rintro (⟨k, e, h1⟩ | h1)
  · simp at h1
  · omega
theorem x_empP {D : va_G} {cl : List vw_C} {H : Heap} : va_P D cl [] H := fun k q h => by simp at h
theorem x_empD {A : Nat → Prop} : va_D A [] := ⟨fun i j p q h => by simp at h, fun k q h => by simp at h⟩
section XPC
theorem x_pcallSi {X : xC} {cc : ByteArray} {own : String} {Ts : List Cond} {nL cells slots pc : Nat} {lv : List (Nat × Value)} {st : List Value} {ws : va_W} {l : Launch} {R : Room} {D : va_G} {cl : List vw_C} {tys : List (ClassId × FieldType)} (K : xk X l R D cl tys cc own Ts nL) {y : MethodName} {w w' : List Cond} {rm : Room} {bytes : ByteArray} {maxL n idx : Nat} {av st0 : List Value} {σ : Type} {P : Int32 → σ → Prop} (hM : xMi l y w rm D cl tys [] av (fun _ : σ => []) P) (hrc : rm.cells = 0) (hrs : rm.slots = 0) (hg : GoodIn Ts (va_wsS own idx y w)) (hw : w = Cond.code y bytes maxL (some .int) :: w') (hd : y.cls ≠ "java/lang/invoke/MethodHandle" ∧ y.cls ≠ "java/lang/invoke/VarHandle" ∧ (parseMethodDescriptor y.desc).map (fun d => d.parameters.length) = some n) (hroom : rm.frames + 1 ≤ R.frames ∧ 8 + (maxL + 11) + rm.locals ≤ R.locals) (hn : av.length = n) (hst : st0 = av.reverse ++ st) (hcat : (st.map fun v => v.category).sum ≤ 8) (d : decode cc pc = .ok (.invokestatic idx, 3)) (hf : cells ≤ R.cells ∧ slots ≤ R.slots)
    (kk : ∀ (r : Int32) (u : σ), P r u → xw X cells slots (pc + 3) lv (.int r :: st) ws) : xw X cells slots pc lv st0 ws := by
  obtain ⟨⟨p, l, e, R, s, m, args, below, meth, c⟩, ⟨D, cl, A, tys, nX, Q⟩⟩ := X
  obtain ⟨rfl, rfl, rfl, rfl, rfl, hx, hb, hml, rfl, hown, hts, hK, hA, hlk⟩ := K
  intro H locs ls hP hD hS hl
  have hFc : ∀ q, va_A [] H.size q → A q := fun q h => hA q (by
    rcases h with ⟨k, e, h⟩ | h
    · simp at h
    · exact Nat.le_trans hS.1 h)
  refine va_calli (va_runS (As := av) (rest := st) ⟨hx, hb, hml, hown, hts⟩ (hM H.size) (va_cwS n hts hg hw hrc hrs hd hroom) ⟨xPre_blind, fun U hU hW => ⟨rfl, by rw [hU], x_empP, va_K.moved hW.alike hK, x_empD⟩⟩ rfl hn hl.1 hst (lv_room hcat) d hf) hS (fun q _ h => hFc q h) hFc (fun r u t H1 locs ht hvm hw hB hz1 hk1 hS => ?_)
  have hP2 : va_P D cl ws H1 := hP.kept (fun k q hq => hk1 q.1 (vx_lt hP hq) (x_emp (H := H) (vx_lt hP hq)))
  exact kk r u hw H1 locs ls hP2 hD hS hl
theorem x_ptcallSi {X : xC} {cc : ByteArray} {own : String} {Ts : List Cond} {nL cells slots pc : Nat} {lv : List (Nat × Value)} {st : List Value} {ws : va_W} {l : Launch} {R : Room} {D : va_G} {cl : List vw_C} {tys : List (ClassId × FieldType)} (K : xk X l R D cl tys cc own Ts nL) {y : MethodName} {w w' : List Cond} {rm : Room} {bytes : ByteArray} {maxL n idx : Nat} {av st0 : List Value} {σ : Type} {P : Int32 → σ → Prop} {ow2 : String} {L L2 : List (Nat × String)} {T : String → Prop} (hE : xEx X ow2 L2) (hL : ∀ q ∈ L, q ∈ L2) {mc ms : Nat} (hM : xTi l y w rm D cl tys [] av ow2 L (fun _ : σ => []) P T mc ms) (hrc : rm.cells = mc) (hrs : rm.slots = ms) (hg : GoodIn Ts (va_wsS own idx y w)) (hw : w = Cond.code y bytes maxL (some .int) :: w') (hd : y.cls ≠ "java/lang/invoke/MethodHandle" ∧ y.cls ≠ "java/lang/invoke/VarHandle" ∧ (parseMethodDescriptor y.desc).map (fun d => d.parameters.length) = some n) (hroom : rm.frames + 1 ≤ R.frames ∧ 8 + (maxL + 11) + rm.locals ≤ R.locals) (hn : av.length = n) (hst : st0 = av.reverse ++ st) (hcat : (st.map fun v => v.category).sum ≤ 8) (d : decode cc pc = .ok (.invokestatic idx, 3)) (hf : cells + mc ≤ R.cells ∧ slots + ms ≤ R.slots)
    (kx : ∀ E, T E → xwx X (cells + mc) (slots + ms) pc lv st ws E) (kk : ∀ (r : Int32) (u : σ), P r u → xw X (cells + mc) (slots + ms) (pc + 3) lv (.int r :: st) ws) : xw X cells slots pc lv st0 ws := by
  obtain ⟨⟨p, l, e, R, s, m, args, below, meth, c⟩, ⟨D, cl, A, tys, nX, Q⟩⟩ := X
  obtain ⟨rfl, rfl, rfl, rfl, rfl, hx, hb, hml, rfl, hown, hts, hK, hA, hlk⟩ := K
  intro H locs ls hP hD hS hl
  have hE : xE ow2 L A s := ⟨hE.1, hE.2.1, fun q hq => hE.2.2.1 q (hL q hq), hE.2.2.2⟩
  have hFc : ∀ q, va_A [] H.size q → A q := fun q h => hA q (by
    rcases h with ⟨k, e, h⟩ | h
    · simp at h
    · exact Nat.le_trans hS.1 h)
  refine vx_calli (vx_runS (As := av) (rest := st) ⟨hx, hb, hml, hown, hts⟩ (hM H.size) (va_cwS n hts hg hw hrc hrs hd hroom) ⟨xPreT_blind, fun U hU hW => ⟨rfl, by rw [hU], x_empP, va_K.moved hW.alike hK, x_empD, xE_go hE hS hFc hU hW⟩⟩ rfl hn hl.1 hst (lv_room hcat) d hf) hS (fun q _ h => hFc q h) hFc (fun q _ h => hFc q h) (fun E ce q9 u t H1 locs ht hvm hw hB hz1 hk1 hS hce hcv hcc => ?_) (fun r u t H1 locs ht hvm hw hB hz1 hk1 hS => ?_)
  · have hP2 : va_P D cl ws H1 := hP.kept (fun k q hq => hk1 q.1 (vx_lt hP hq) (x_emp (H := H) (vx_lt hP hq)))
    exact kx E hB.1 H1 locs ls ce q9 hP2 hD hS hl hce hcv hcc
  · have hP2 : va_P D cl ws H1 := hP.kept (fun k q hq => hk1 q.1 (vx_lt hP hq) (x_emp (H := H) (vx_lt hP hq)))
    exact kk r u hw H1 locs ls hP2 hD hS hl
theorem x_pcallSl {X : xC} {cc : ByteArray} {own : String} {Ts : List Cond} {nL cells slots pc : Nat} {lv : List (Nat × Value)} {st : List Value} {ws : va_W} {l : Launch} {R : Room} {D : va_G} {cl : List vw_C} {tys : List (ClassId × FieldType)} (K : xk X l R D cl tys cc own Ts nL) {y : MethodName} {w w' : List Cond} {rm : Room} {bytes : ByteArray} {maxL n idx : Nat} {av st0 : List Value} {σ : Type} {P : Int64 → σ → Prop} (hM : xMl l y w rm D cl tys [] av (fun _ : σ => []) P) (hrc : rm.cells = 0) (hrs : rm.slots = 0) (hg : GoodIn Ts (va_wsS own idx y w)) (hw : w = Cond.code y bytes maxL (some .long) :: w') (hd : y.cls ≠ "java/lang/invoke/MethodHandle" ∧ y.cls ≠ "java/lang/invoke/VarHandle" ∧ (parseMethodDescriptor y.desc).map (fun d => d.parameters.length) = some n) (hroom : rm.frames + 1 ≤ R.frames ∧ 8 + (maxL + 11) + rm.locals ≤ R.locals) (hn : av.length = n) (hst : st0 = av.reverse ++ st) (hcat : (st.map fun v => v.category).sum ≤ 8) (d : decode cc pc = .ok (.invokestatic idx, 3)) (hf : cells ≤ R.cells ∧ slots ≤ R.slots)
    (kk : ∀ (r : Int64) (u : σ), P r u → xw X cells slots (pc + 3) lv (.long r :: st) ws) : xw X cells slots pc lv st0 ws := by
  obtain ⟨⟨p, l, e, R, s, m, args, below, meth, c⟩, ⟨D, cl, A, tys, nX, Q⟩⟩ := X
  obtain ⟨rfl, rfl, rfl, rfl, rfl, hx, hb, hml, rfl, hown, hts, hK, hA, hlk⟩ := K
  intro H locs ls hP hD hS hl
  have hFc : ∀ q, va_A [] H.size q → A q := fun q h => hA q (by
    rcases h with ⟨k, e, h⟩ | h
    · simp at h
    · exact Nat.le_trans hS.1 h)
  refine va_calll (va_runS (As := av) (rest := st) ⟨hx, hb, hml, hown, hts⟩ (hM H.size) (va_cwS n hts hg hw hrc hrs hd hroom) ⟨xPre_blind, fun U hU hW => ⟨rfl, by rw [hU], x_empP, va_K.moved hW.alike hK, x_empD⟩⟩ rfl hn hl.1 hst (lv_room hcat) d hf) hS (fun q _ h => hFc q h) hFc (fun r u t H1 locs ht hvm hw hB hz1 hk1 hS => ?_)
  have hP2 : va_P D cl ws H1 := hP.kept (fun k q hq => hk1 q.1 (vx_lt hP hq) (x_emp (H := H) (vx_lt hP hq)))
  exact kk r u hw H1 locs ls hP2 hD hS hl
theorem x_ptcallSl {X : xC} {cc : ByteArray} {own : String} {Ts : List Cond} {nL cells slots pc : Nat} {lv : List (Nat × Value)} {st : List Value} {ws : va_W} {l : Launch} {R : Room} {D : va_G} {cl : List vw_C} {tys : List (ClassId × FieldType)} (K : xk X l R D cl tys cc own Ts nL) {y : MethodName} {w w' : List Cond} {rm : Room} {bytes : ByteArray} {maxL n idx : Nat} {av st0 : List Value} {σ : Type} {P : Int64 → σ → Prop} {ow2 : String} {L L2 : List (Nat × String)} {T : String → Prop} (hE : xEx X ow2 L2) (hL : ∀ q ∈ L, q ∈ L2) {mc ms : Nat} (hM : xTl l y w rm D cl tys [] av ow2 L (fun _ : σ => []) P T mc ms) (hrc : rm.cells = mc) (hrs : rm.slots = ms) (hg : GoodIn Ts (va_wsS own idx y w)) (hw : w = Cond.code y bytes maxL (some .long) :: w') (hd : y.cls ≠ "java/lang/invoke/MethodHandle" ∧ y.cls ≠ "java/lang/invoke/VarHandle" ∧ (parseMethodDescriptor y.desc).map (fun d => d.parameters.length) = some n) (hroom : rm.frames + 1 ≤ R.frames ∧ 8 + (maxL + 11) + rm.locals ≤ R.locals) (hn : av.length = n) (hst : st0 = av.reverse ++ st) (hcat : (st.map fun v => v.category).sum ≤ 8) (d : decode cc pc = .ok (.invokestatic idx, 3)) (hf : cells + mc ≤ R.cells ∧ slots + ms ≤ R.slots)
    (kx : ∀ E, T E → xwx X (cells + mc) (slots + ms) pc lv st ws E) (kk : ∀ (r : Int64) (u : σ), P r u → xw X (cells + mc) (slots + ms) (pc + 3) lv (.long r :: st) ws) : xw X cells slots pc lv st0 ws := by
  obtain ⟨⟨p, l, e, R, s, m, args, below, meth, c⟩, ⟨D, cl, A, tys, nX, Q⟩⟩ := X
  obtain ⟨rfl, rfl, rfl, rfl, rfl, hx, hb, hml, rfl, hown, hts, hK, hA, hlk⟩ := K
  intro H locs ls hP hD hS hl
  have hE : xE ow2 L A s := ⟨hE.1, hE.2.1, fun q hq => hE.2.2.1 q (hL q hq), hE.2.2.2⟩
  have hFc : ∀ q, va_A [] H.size q → A q := fun q h => hA q (by
    rcases h with ⟨k, e, h⟩ | h
    · simp at h
    · exact Nat.le_trans hS.1 h)
  refine vx_calll (vx_runS (As := av) (rest := st) ⟨hx, hb, hml, hown, hts⟩ (hM H.size) (va_cwS n hts hg hw hrc hrs hd hroom) ⟨xPreT_blind, fun U hU hW => ⟨rfl, by rw [hU], x_empP, va_K.moved hW.alike hK, x_empD, xE_go hE hS hFc hU hW⟩⟩ rfl hn hl.1 hst (lv_room hcat) d hf) hS (fun q _ h => hFc q h) hFc (fun q _ h => hFc q h) (fun E ce q9 u t H1 locs ht hvm hw hB hz1 hk1 hS hce hcv hcc => ?_) (fun r u t H1 locs ht hvm hw hB hz1 hk1 hS => ?_)
  · have hP2 : va_P D cl ws H1 := hP.kept (fun k q hq => hk1 q.1 (vx_lt hP hq) (x_emp (H := H) (vx_lt hP hq)))
    exact kx E hB.1 H1 locs ls ce q9 hP2 hD hS hl hce hcv hcc
  · have hP2 : va_P D cl ws H1 := hP.kept (fun k q hq => hk1 q.1 (vx_lt hP hq) (x_emp (H := H) (vx_lt hP hq)))
    exact kk r u hw H1 locs ls hP2 hD hS hl
theorem x_pcallSv {X : xC} {cc : ByteArray} {own : String} {Ts : List Cond} {nL cells slots pc : Nat} {lv : List (Nat × Value)} {st : List Value} {ws : va_W} {l : Launch} {R : Room} {D : va_G} {cl : List vw_C} {tys : List (ClassId × FieldType)} (K : xk X l R D cl tys cc own Ts nL) {y : MethodName} {w w' : List Cond} {rm : Room} {bytes : ByteArray} {maxL n idx : Nat} {av st0 : List Value} {σ : Type} {P : σ → Prop} (hM : xMv l y w rm D cl tys [] av (fun _ : σ => []) P) (hrc : rm.cells = 0) (hrs : rm.slots = 0) (hg : GoodIn Ts (va_wsS own idx y w)) (hw : w = Cond.code y bytes maxL (none) :: w') (hd : y.cls ≠ "java/lang/invoke/MethodHandle" ∧ y.cls ≠ "java/lang/invoke/VarHandle" ∧ (parseMethodDescriptor y.desc).map (fun d => d.parameters.length) = some n) (hroom : rm.frames + 1 ≤ R.frames ∧ 8 + (maxL + 11) + rm.locals ≤ R.locals) (hn : av.length = n) (hst : st0 = av.reverse ++ st) (hcat : (st.map fun v => v.category).sum ≤ 8) (d : decode cc pc = .ok (.invokestatic idx, 3)) (hf : cells ≤ R.cells ∧ slots ≤ R.slots)
    (kk : ∀ (u : σ), P u → xw X cells slots (pc + 3) lv st ws) : xw X cells slots pc lv st0 ws := by
  obtain ⟨⟨p, l, e, R, s, m, args, below, meth, c⟩, ⟨D, cl, A, tys, nX, Q⟩⟩ := X
  obtain ⟨rfl, rfl, rfl, rfl, rfl, hx, hb, hml, rfl, hown, hts, hK, hA, hlk⟩ := K
  intro H locs ls hP hD hS hl
  have hFc : ∀ q, va_A [] H.size q → A q := fun q h => hA q (by
    rcases h with ⟨k, e, h⟩ | h
    · simp at h
    · exact Nat.le_trans hS.1 h)
  refine va_callv (va_runS (As := av) (rest := st) ⟨hx, hb, hml, hown, hts⟩ (hM H.size) (va_cwS n hts hg hw hrc hrs hd hroom) ⟨xPre_blind, fun U hU hW => ⟨rfl, by rw [hU], x_empP, va_K.moved hW.alike hK, x_empD⟩⟩ rfl hn hl.1 hst (lv_room hcat) d hf) hS (fun q _ h => hFc q h) hFc (fun u t H1 locs ht hvm hw hB hz1 hk1 hS => ?_)
  have hP2 : va_P D cl ws H1 := hP.kept (fun k q hq => hk1 q.1 (vx_lt hP hq) (x_emp (H := H) (vx_lt hP hq)))
  exact kk u hw H1 locs ls hP2 hD hS hl
theorem x_ptcallSv {X : xC} {cc : ByteArray} {own : String} {Ts : List Cond} {nL cells slots pc : Nat} {lv : List (Nat × Value)} {st : List Value} {ws : va_W} {l : Launch} {R : Room} {D : va_G} {cl : List vw_C} {tys : List (ClassId × FieldType)} (K : xk X l R D cl tys cc own Ts nL) {y : MethodName} {w w' : List Cond} {rm : Room} {bytes : ByteArray} {maxL n idx : Nat} {av st0 : List Value} {σ : Type} {P : σ → Prop} {ow2 : String} {L L2 : List (Nat × String)} {T : String → Prop} (hE : xEx X ow2 L2) (hL : ∀ q ∈ L, q ∈ L2) {mc ms : Nat} (hM : xTv l y w rm D cl tys [] av ow2 L (fun _ : σ => []) P T mc ms) (hrc : rm.cells = mc) (hrs : rm.slots = ms) (hg : GoodIn Ts (va_wsS own idx y w)) (hw : w = Cond.code y bytes maxL (none) :: w') (hd : y.cls ≠ "java/lang/invoke/MethodHandle" ∧ y.cls ≠ "java/lang/invoke/VarHandle" ∧ (parseMethodDescriptor y.desc).map (fun d => d.parameters.length) = some n) (hroom : rm.frames + 1 ≤ R.frames ∧ 8 + (maxL + 11) + rm.locals ≤ R.locals) (hn : av.length = n) (hst : st0 = av.reverse ++ st) (hcat : (st.map fun v => v.category).sum ≤ 8) (d : decode cc pc = .ok (.invokestatic idx, 3)) (hf : cells + mc ≤ R.cells ∧ slots + ms ≤ R.slots)
    (kx : ∀ E, T E → xwx X (cells + mc) (slots + ms) pc lv st ws E) (kk : ∀ (u : σ), P u → xw X (cells + mc) (slots + ms) (pc + 3) lv st ws) : xw X cells slots pc lv st0 ws := by
  obtain ⟨⟨p, l, e, R, s, m, args, below, meth, c⟩, ⟨D, cl, A, tys, nX, Q⟩⟩ := X
  obtain ⟨rfl, rfl, rfl, rfl, rfl, hx, hb, hml, rfl, hown, hts, hK, hA, hlk⟩ := K
  intro H locs ls hP hD hS hl
  have hE : xE ow2 L A s := ⟨hE.1, hE.2.1, fun q hq => hE.2.2.1 q (hL q hq), hE.2.2.2⟩
  have hFc : ∀ q, va_A [] H.size q → A q := fun q h => hA q (by
    rcases h with ⟨k, e, h⟩ | h
    · simp at h
    · exact Nat.le_trans hS.1 h)
  refine vx_callv (vx_runS (As := av) (rest := st) ⟨hx, hb, hml, hown, hts⟩ (hM H.size) (va_cwS n hts hg hw hrc hrs hd hroom) ⟨xPreT_blind, fun U hU hW => ⟨rfl, by rw [hU], x_empP, va_K.moved hW.alike hK, x_empD, xE_go hE hS hFc hU hW⟩⟩ rfl hn hl.1 hst (lv_room hcat) d hf) hS (fun q _ h => hFc q h) hFc (fun q _ h => hFc q h) (fun E ce q9 u t H1 locs ht hvm hw hB hz1 hk1 hS hce hcv hcc => ?_) (fun u t H1 locs ht hvm hw hB hz1 hk1 hS => ?_)
  · have hP2 : va_P D cl ws H1 := hP.kept (fun k q hq => hk1 q.1 (vx_lt hP hq) (x_emp (H := H) (vx_lt hP hq)))
    exact kx E hB.1 H1 locs ls ce q9 hP2 hD hS hl hce hcv hcc
  · have hP2 : va_P D cl ws H1 := hP.kept (fun k q hq => hk1 q.1 (vx_lt hP hq) (x_emp (H := H) (vx_lt hP hq)))
    exact kk u hw H1 locs ls hP2 hD hS hl
theorem x_pcallSz {X : xC} {cc : ByteArray} {own : String} {Ts : List Cond} {nL cells slots pc : Nat} {lv : List (Nat × Value)} {st : List Value} {ws : va_W} {l : Launch} {R : Room} {D : va_G} {cl : List vw_C} {tys : List (ClassId × FieldType)} (K : xk X l R D cl tys cc own Ts nL) {y : MethodName} {w w' : List Cond} {rm : Room} {bytes : ByteArray} {maxL n idx : Nat} {av st0 : List Value} {σ : Type} {P : Int32 → σ → Prop} (hM : xMz l y w rm D cl tys [] av (fun _ : σ => []) P) (hrc : rm.cells = 0) (hrs : rm.slots = 0) (hg : GoodIn Ts (va_wsS own idx y w)) (hw : w = Cond.code y bytes maxL (some .boolean) :: w') (hd : y.cls ≠ "java/lang/invoke/MethodHandle" ∧ y.cls ≠ "java/lang/invoke/VarHandle" ∧ (parseMethodDescriptor y.desc).map (fun d => d.parameters.length) = some n) (hroom : rm.frames + 1 ≤ R.frames ∧ 8 + (maxL + 11) + rm.locals ≤ R.locals) (hn : av.length = n) (hst : st0 = av.reverse ++ st) (hcat : (st.map fun v => v.category).sum ≤ 8) (d : decode cc pc = .ok (.invokestatic idx, 3)) (hf : cells ≤ R.cells ∧ slots ≤ R.slots)
    (kk : ∀ (r : Int32) (u : σ), P r u → xw X cells slots (pc + 3) lv (.int r :: st) ws) : xw X cells slots pc lv st0 ws := by
  obtain ⟨⟨p, l, e, R, s, m, args, below, meth, c⟩, ⟨D, cl, A, tys, nX, Q⟩⟩ := X
  obtain ⟨rfl, rfl, rfl, rfl, rfl, hx, hb, hml, rfl, hown, hts, hK, hA, hlk⟩ := K
  intro H locs ls hP hD hS hl
  have hFc : ∀ q, va_A [] H.size q → A q := fun q h => hA q (by
    rcases h with ⟨k, e, h⟩ | h
    · simp at h
    · exact Nat.le_trans hS.1 h)
  refine va_calli (va_runS (As := av) (rest := st) ⟨hx, hb, hml, hown, hts⟩ (hM H.size) (va_cwS n hts hg hw hrc hrs hd hroom) ⟨xPre_blind, fun U hU hW => ⟨rfl, by rw [hU], x_empP, va_K.moved hW.alike hK, x_empD⟩⟩ rfl hn hl.1 hst (lv_room hcat) d hf) hS (fun q _ h => hFc q h) hFc (fun r u t H1 locs ht hvm hw hB hz1 hk1 hS => ?_)
  have hP2 : va_P D cl ws H1 := hP.kept (fun k q hq => hk1 q.1 (vx_lt hP hq) (x_emp (H := H) (vx_lt hP hq)))
  exact kk r u hw H1 locs ls hP2 hD hS hl
theorem x_ptcallSz {X : xC} {cc : ByteArray} {own : String} {Ts : List Cond} {nL cells slots pc : Nat} {lv : List (Nat × Value)} {st : List Value} {ws : va_W} {l : Launch} {R : Room} {D : va_G} {cl : List vw_C} {tys : List (ClassId × FieldType)} (K : xk X l R D cl tys cc own Ts nL) {y : MethodName} {w w' : List Cond} {rm : Room} {bytes : ByteArray} {maxL n idx : Nat} {av st0 : List Value} {σ : Type} {P : Int32 → σ → Prop} {ow2 : String} {L L2 : List (Nat × String)} {T : String → Prop} (hE : xEx X ow2 L2) (hL : ∀ q ∈ L, q ∈ L2) {mc ms : Nat} (hM : xTz l y w rm D cl tys [] av ow2 L (fun _ : σ => []) P T mc ms) (hrc : rm.cells = mc) (hrs : rm.slots = ms) (hg : GoodIn Ts (va_wsS own idx y w)) (hw : w = Cond.code y bytes maxL (some .boolean) :: w') (hd : y.cls ≠ "java/lang/invoke/MethodHandle" ∧ y.cls ≠ "java/lang/invoke/VarHandle" ∧ (parseMethodDescriptor y.desc).map (fun d => d.parameters.length) = some n) (hroom : rm.frames + 1 ≤ R.frames ∧ 8 + (maxL + 11) + rm.locals ≤ R.locals) (hn : av.length = n) (hst : st0 = av.reverse ++ st) (hcat : (st.map fun v => v.category).sum ≤ 8) (d : decode cc pc = .ok (.invokestatic idx, 3)) (hf : cells + mc ≤ R.cells ∧ slots + ms ≤ R.slots)
    (kx : ∀ E, T E → xwx X (cells + mc) (slots + ms) pc lv st ws E) (kk : ∀ (r : Int32) (u : σ), P r u → xw X (cells + mc) (slots + ms) (pc + 3) lv (.int r :: st) ws) : xw X cells slots pc lv st0 ws := by
  obtain ⟨⟨p, l, e, R, s, m, args, below, meth, c⟩, ⟨D, cl, A, tys, nX, Q⟩⟩ := X
  obtain ⟨rfl, rfl, rfl, rfl, rfl, hx, hb, hml, rfl, hown, hts, hK, hA, hlk⟩ := K
  intro H locs ls hP hD hS hl
  have hE : xE ow2 L A s := ⟨hE.1, hE.2.1, fun q hq => hE.2.2.1 q (hL q hq), hE.2.2.2⟩
  have hFc : ∀ q, va_A [] H.size q → A q := fun q h => hA q (by
    rcases h with ⟨k, e, h⟩ | h
    · simp at h
    · exact Nat.le_trans hS.1 h)
  refine vx_calli (vx_runS (As := av) (rest := st) ⟨hx, hb, hml, hown, hts⟩ (hM H.size) (va_cwS n hts hg hw hrc hrs hd hroom) ⟨xPreT_blind, fun U hU hW => ⟨rfl, by rw [hU], x_empP, va_K.moved hW.alike hK, x_empD, xE_go hE hS hFc hU hW⟩⟩ rfl hn hl.1 hst (lv_room hcat) d hf) hS (fun q _ h => hFc q h) hFc (fun q _ h => hFc q h) (fun E ce q9 u t H1 locs ht hvm hw hB hz1 hk1 hS hce hcv hcc => ?_) (fun r u t H1 locs ht hvm hw hB hz1 hk1 hS => ?_)
  · have hP2 : va_P D cl ws H1 := hP.kept (fun k q hq => hk1 q.1 (vx_lt hP hq) (x_emp (H := H) (vx_lt hP hq)))
    exact kx E hB.1 H1 locs ls ce q9 hP2 hD hS hl hce hcv hcc
  · have hP2 : va_P D cl ws H1 := hP.kept (fun k q hq => hk1 q.1 (vx_lt hP hq) (x_emp (H := H) (vx_lt hP hq)))
    exact kk r u hw H1 locs ls hP2 hD hS hl
end XPC
