/-! THE CLAIM OUT OF ONE WALK OF THE LAW'S BODY. Your part is whole_start (and what it stands on); all else here is the same for every law, but numbers. -/
def R_law : String := "FourTintsLaw"
def lw_P (b : Addr) (xs : List Int32) (args : Array Value) (s : State) : Prop := args = #[.ref b] ∧ s.IntsAt b xs ∧ xs.length ≤ 3072 ∧ (Jvm.Cond.and given_1 narrow_1).before args s = true
def lw_Q (_ : Array Value) (s : State) (o : Outcome) (t : State) : Prop := o = .returned (some (.int 1)) ∧ Framed s o t [] 601024 7293034
def lw_Z (below : List Frame) (a : Array Value) (s : State) : State → Prop := fun t => ∃ o, t.status = .running ∧ Ended t below o ∧ lw_Q a s o t
/-- the law's own end, with 1 on the stack, nothing written that was there before, its room as the claim has it -/
theorem lw_ret {p : Program} {l : Launch} {e : Env} {s : State} {m : MethodId} {below : List Frame} {meth : Method} {c : Code} {b : Nat} (hx : p.tables.exec = Jvm.exec) (hb : c.code = code) (hr : meth.sig.returnType = ret) (hlocks : meth.locks = false) {pc : Nat} {H : Heap} {ls : Array Slot} (hdg : decode code pc = .ok (.ireturn, 1)) : W p l e room_1 s m #[Value.ref b] below meth c H [] 601024 7293034 (lw_Z below #[Value.ref b] s) (F0 m pc ls [.int 1]) := by
  intro T hT X
  obtain ⟨fs, hret, hrun, hended, hW, hframe⟩ := X.leave (v := some (.int 1)) (hlocks := hlocks) (fun h => by rw [hr] at h; cases h)
  have hmeth' : T.vm.method? m = some meth := X.method'
  refine ⟨T.setFrames fs, ?_, .returned (some (.int 1)), hrun, hended, rfl, ⟨_, rfl⟩, hW, hframe⟩
  jvm_step X.here [X.here.top, hx, hb, hdg, hmeth', hr, ret, narrow_b1]
  (try refine ⟨rfl, ?_⟩); (try refine ⟨rfl, ?_⟩)
  first | (intro acts; rw [hret _ acts rfl rfl rfl]) | rw [hret _ _ rfl rfl rfl]
  exact Steps.refl _
/-- what holds at the law's entry: the machine, the code, the tables' words (any of lw_tbl by 'hts w (by decide +kernel)'), the script of L ints xs at the cell b, what the Statement gives of the start (any of its parts by flat_of_before) -/
def lw_At (p : Program) (s : State) (m : MethodId) (meth : Method) (c : Code) (b L : Nat) (xs : Nat → Int32) : Prop :=
  p.tables.exec = Jvm.exec ∧ c.code = code ∧ meth.sig.returnType = ret ∧ c.maxLocals = 8 ∧ s.vm.findClass R_law = some m.cls ∧ (∀ w ∈ lw_tbl, w.before #[Value.ref b] s = true) ∧ va_X b L xs s s.heap ∧ b < s.heap.size ∧ meth.locks = false ∧ (Jvm.Cond.and given_1 narrow_1).before #[Value.ref b] s = true

theorem xAOA_args0 {args : Array Value} {U : State} (h : (Cond.arrayOver (.array .int)).before args U = true) : xAOA U := h
section XST
variable {X : xC} {l0 : Launch} {R0 : Room} {D0 : va_G} {cl0 : List vw_C} {tys0 : List (ClassId × FieldType)} {cc : ByteArray} {own : String} {Ts : List Cond} {nL cells slots pc : Nat} {lv lv' : List (Nat × Value)} {st : List Value} {ws : va_W}
def xao : xC → Prop
  | ((_, _, _, _, s, _, _, _, _, _), _) => xAOA s
theorem x_new (K : xk X l0 R0 D0 cl0 tys0 cc own Ts nL) {C : String} {T : u_T} {N ci index : Nat} (hin : ∀ w ∈ u_ws C T N, w ∈ Ts) (ty : Nat → FieldType) (hty : ∀ k, k < N → parseFieldDescriptor (T k).2.2.1 = some (ty k)) (hcl : Cond.classLink own index C ∈ Ts) (hinst : Cond.instantiable C N ∈ Ts) (hini : Cond.initialized C ∈ Ts) (hc : cl0[ci]? = some (C, T, N)) {fs : List Value} (hfs : ∀ j, j < N → defaultValue (ty j) = vp_V fs j) (hcells : cells + 1 ≤ R0.cells) (hslots : slots + N ≤ R0.slots) (d : decode cc pc = .ok (.new index, 3)) (kk : ∀ q : Nat, xw X (cells + 1) (slots + N) (pc + 3) lv (.ref q :: st) (ws ++ [(q, .inr (ci, fs))])) : xw X cells slots pc lv st ws := by
  obtain ⟨⟨p, l, e, R, s, m, args, below, meth, c⟩, ⟨D, cl, A, tys, nX, Q⟩⟩ := X
  obtain ⟨rfl, rfl, rfl, rfl, rfl, hx, hb, hml, rfl, hown, hts, hK, hA, hlk⟩ := K
  intro H locs ls hP hD hS hl
  exact va_new hx hb hts hin ty hty hown (hts _ hcl) (hts _ hinst) (hts _ hini) hK hP hD hS hA hc hfs hcells hslots d (fun q H1 hP1 hD1 hS1 => kk q H1 locs ls hP1 hD1 hS1 hl)
theorem x_ccallI (K : xk X l0 R0 D0 cl0 tys0 cc own Ts nL) (hao : xao X) {y : MethodName} {w w' : List Cond} {rm : Room} {bytes : ByteArray} {maxL idx b : Nat} {wc : va_W} {σ : Type} {wf : σ → va_W} {P : σ → Prop} {mc ms : Nat} (hM : xCon l0 y w rm D0 cl0 tys0 wc [.ref b] wf P mc ms) (hrc : rm.cells = mc) (hrs : rm.slots = ms) (hg : GoodIn Ts w) (hw : w = Cond.code y bytes maxL none :: w') (hini : Cond.initialized y.cls ∈ Ts) (hlink : Cond.methodLink own idx y ∈ Ts) (hinst : Cond.instanceMethod y ∈ Ts) (hy1 : y.name = "<init>") (hd : y.cls ≠ "java/lang/invoke/MethodHandle" ∧ y.cls ≠ "java/lang/invoke/VarHandle" ∧ (parseMethodDescriptor y.desc).map (fun d => d.parameters.length) = some 0) (hroom : rm.frames + 1 ≤ R0.frames ∧ 8 + (maxL + 11) + rm.locals ≤ R0.locals) (hcat : (st.map fun v => v.category).sum ≤ 8)
    (isC isR : List Nat) {wr : va_W} (hC : isC.map (fun i => ws[i]?) = wc.map some) (hRr : isR.map (fun i => ws[i]?) = wr.map some) (hnC : va_nd isC = true) (hnd : va_nd isR = true) (hdis : ∀ i ∈ isR, i ∉ isC) (d : decode cc pc = .ok (.invokespecial idx, 3)) (hf : cells + mc ≤ R0.cells ∧ slots + ms ≤ R0.slots)
    (kk : ∀ u : σ, P u → xw X (cells + mc) (slots + ms) (pc + 3) lv st (wr ++ wf u)) : xw X cells slots pc lv (.ref b :: st) ws := by
  obtain ⟨⟨p, l, e, R, s, m, args, below, meth, c⟩, ⟨D, cl, A, tys, nX, Q⟩⟩ := X
  obtain ⟨rfl, rfl, rfl, rfl, rfl, hx, hb, hml, rfl, hown, hts, hK, hA, hlk⟩ := K
  intro H locs ls hP hD hS hl
  have hPc := hP.sub (ws' := wc) isC (xfm hC)
  have hDc := hD.sub (ws' := wc) isC hnC hC
  have hFc := va_free (wc := wc) hD hS hA isC hC
  refine va_callv (va_runI (As := []) (rest := st) ⟨hx, hb, hml, hown, hts⟩ (hM H.size) (cwI 0 hts hg hw hrc hrs (hts _ hini) (hts _ hlink) (hts _ hinst) hy1 hd hroom) ⟨xPreC_blind, fun U hU hW => ⟨rfl, by rw [hU], by rw [hU]; exact hPc, va_K.moved hW.alike hK, hDc.weaken (fun _ _ _ _ => trivial), xAOA_moved hW.alike hao⟩⟩ rfl rfl hl.1 rfl (lv_room hcat) d hf) hS (fun q _ h => hFc q h) hFc (fun u t H1 locs ht hvm hw hB hz1 hk1 hS => ?_)
  obtain ⟨hP1, hK1, hD1⟩ := hB
  rw [ht] at hP1
  obtain ⟨hP, hD⟩ := va_join (wr := wr) (w1 := wf u) hP hD isC isR hC hRr hnd hdis hk1 hFc hP1 hD1
  exact kk u hw H1 locs ls hP hD hS hl
end XST
theorem x_arr {args : Array Value} {s : State} {ty : FieldType} (h : (Cond.arrayClass ty).before args s = true) : ∃ cA, ArrOfT s cA ty ∧ s.vm.findClass ("[" ++ ty.toString) = some cA := by
  obtain ⟨cA, kA, comp, h1, h2, h3⟩ := Cond.arrayClass_spec h
  exact ⟨cA, fun n z => ⟨fun k h => (by cases h), kA, h2, comp, h3⟩, h1⟩
theorem x_arr2 {args : Array Value} {s : State} (h : (Cond.arrayOver (.array .int)).before args s = true) : ∃ cA, ArrOfT s cA (.array .int) ∧ s.vm.findClass ("[" ++ (FieldType.array .int).toString) = some cA := by
  obtain ⟨comp, c, k, h1, h2, h3, h4, h5⟩ := xAOA_spec h
  exact ⟨c, fun n z => ⟨fun k h => (by cases h), k, h3, comp, h4⟩, h5⟩
theorem k_law_new0 : Cond.classLink RL 8 RX0 ∈ wsL_law := by decide +kernel
theorem k_law_ins0 : Cond.instantiable RX0 8 ∈ wsL_law := by decide +kernel
theorem k_law_ini0 : Cond.initialized RX0 ∈ wsL_law := by decide +kernel
theorem k_law_new1 : Cond.classLink RL 69 RX1 ∈ wsL_law := by decide +kernel
theorem k_law_ins1 : Cond.instantiable RX1 8 ∈ wsL_law := by decide +kernel
theorem k_law_ini1 : Cond.initialized RX1 ∈ wsL_law := by decide +kernel
theorem k_law_l0 : Cond.methodLink RL 68 yX0_init ∈ wsL_law := by decide +kernel
theorem k_law_i0 : Cond.instanceMethod yX0_init ∈ wsL_law := by decide +kernel
theorem k_law_l1 : Cond.methodLink RL 71 yX1_init ∈ wsL_law := by decide +kernel
theorem k_law_i1 : Cond.instanceMethod yX1_init ∈ wsL_law := by decide +kernel
theorem k_law_aj : Cond.arrayClass .long ∈ wsL_law := by decide +kernel
theorem k_tbl (n : Nat) (w : Cond) (h : tables_1[n]? = some w) : w ∈ lw_tbl := List.mem_append_right _ (List.mem_of_getElem? h)
theorem t_tU : Cond.laysStatic Bundle.tN "UNASSIGNED_STACK" Bundle.steD ∈ lw_tbl := k_tbl 194 _ (by decide +kernel)
theorem t_tS : Cond.laysStatic Bundle.tN "SUPPRESSED_SENTINEL" Bundle.listD ∈ lw_tbl := k_tbl 196 _ (by decide +kernel)
theorem t_tI : Cond.initialized Bundle.tN ∈ lw_tbl := k_tbl 3 _ (by decide +kernel)
theorem t_aO : Cond.arrayOver (.array .int) ∈ lw_tbl := k_tbl 23 _ (by decide +kernel)
theorem t_a_int : Cond.arrayClass .int ∈ lw_tbl := k_tbl 50 _ (by decide +kernel)
theorem t_a_long : Cond.arrayClass .long ∈ lw_tbl := k_tbl 49 _ (by decide +kernel)
theorem t_a_boolean : Cond.arrayClass .boolean ∈ lw_tbl := k_tbl 51 _ (by decide +kernel)
theorem t_s61 : Cond.stringRef RX0 61 "the block ends before it begins" ∈ lw_tbl := k_tbl 280 _ (by decide +kernel)
theorem t_s180 : Cond.stringRef RX0 180 "there is no such row or column" ∈ lw_tbl := k_tbl 208 _ (by decide +kernel)
theorem t_s183 : Cond.stringRef RX0 183 "there is no such country" ∈ lw_tbl := k_tbl 308 _ (by decide +kernel)
theorem t_s185 : Cond.stringRef RX0 185 "neither a country nor sea" ∈ lw_tbl := k_tbl 247 _ (by decide +kernel)
theorem t_s187 : Cond.stringRef RX0 187 "there is no such tint" ∈ lw_tbl := k_tbl 355 _ (by decide +kernel)
theorem t_s189 : Cond.stringRef RX0 189 "there are not so many tints" ∈ lw_tbl := k_tbl 419 _ (by decide +kernel)
theorem t_s193 : Cond.stringRef RX0 193 "the country is not there or has no tint" ∈ lw_tbl := k_tbl 391 _ (by decide +kernel)
theorem t_d1 : Cond.declares (Bundle.initS "java/lang/RuntimeException") ∈ lw_tbl := k_tbl 171 _ (by decide +kernel)
theorem t_d2 : Cond.declares (Bundle.initS "java/lang/Exception") ∈ lw_tbl := k_tbl 173 _ (by decide +kernel)
theorem t_d3 : Cond.declares (Bundle.initS Bundle.tN) ∈ lw_tbl := k_tbl 175 _ (by decide +kernel)
theorem t_c1 : Cond.castable "java/lang/IndexOutOfBoundsException" "java/lang/IndexOutOfBoundsException" ∈ lw_tbl := k_tbl 169 _ (by decide +kernel)
theorem t_c2 : Cond.castable "java/lang/IllegalArgumentException" "java/lang/IllegalArgumentException" ∈ lw_tbl := k_tbl 240 _ (by decide +kernel)
theorem t_c3 : Cond.castable "java/lang/IllegalStateException" "java/lang/IllegalStateException" ∈ lw_tbl := k_tbl 384 _ (by decide +kernel)
theorem x_str {own text : String} {k : Nat} {args : Array Value} {s : State} (h : (Cond.stringRef own k text).before args s = true) : ∃ sa, vk_R own k text sa s := by
  cases hc : s.vm.findClass own with
  | none =>
    simp only [Cond.before, Cond.holds, Cond.value] at h
    simp [hc] at h
  | some cur =>
    obtain ⟨_, _, _, a, _, _, _, _, _, h6⟩ := Cond.stringRef_spec hc h
    exact ⟨a, vk_R.of h h6⟩
theorem n_start : (∀ q ∈ xNo, Cond.not (.castable q.1 q.2) ∈ flatC (Jvm.Cond.and given_1 narrow_1)) ∧ Cond.isRef (.static Bundle.tN "UNASSIGNED_STACK" Bundle.steD) ∈ flatC (Jvm.Cond.and given_1 narrow_1) ∧ Cond.isRef (.static Bundle.tN "SUPPRESSED_SENTINEL" Bundle.listD) ∈ flatC (Jvm.Cond.and given_1 narrow_1) := by decide +kernel
set_option maxHeartbeats 4000000 in
set_option maxRecDepth 100000 in
theorem whole_open (hpure : ∀ (L : Nat) (xs : Nat → Int32), L ≤ 3072 → ∃ n, n ≤ 1000 ∧ q_L_law_L23 L xs n 0 (fun _ => 0) 0 (fun _ => 0) (fun _ => 0) (fun _ => 0) (fun _ => 0) (fun _ => 0) (fun _ _ => 0) cel0 (fun _ => 0) (fun _ => 0) (fun _ => 0) 0 (fun _ => 0) (fun _ => 0) 0 (fun _ => 0)) {p : Program} {e : Env} {s : State} {m : MethodId} {below : List Frame} {meth : Method} {c : Code} (l : Launch) (hflags : l.flags = flags0) {b L : Nat} {xs : Nat → Int32} (hL : L ≤ 3072) (C0 : lw_At p s m meth c b L xs) : W p l e room_1 s m #[Value.ref b] below meth c s.heap [] 0 0 (lw_Z below #[Value.ref b] s) (entryFrame m ([Value.ref b] : List Value).toArray 8) := by
  obtain ⟨hx, hb, hr, hml, hown, hts, hX, hbl, hlocks, hgv⟩ := C0
  have hst : l.stackTraces = false := by
    unfold Launch.stackTraces
    rw [hflags]
    decide +kernel
  obtain ⟨c0, iS0, hKn0⟩ := u_known (C := RX0) (T := TX0) (N := 8) (n := 8) hts inX0 (hts _ (wsL_law_in _ k_law_ins0))
  obtain ⟨c1, iS1, hKn1⟩ := u_known (C := RX1) (T := TX1) (N := 8) (n := 8) hts inX1 (hts _ (wsL_law_in _ k_law_ins1))
  obtain ⟨D, hKc⟩ : ∃ (D : va_G), ∀ (k : Nat) (q : vw_C), vwCl[k]? = some q → u_Kn s q.1 q.2.1 q.2.2 (D.1 k) (D.2 k) := by
    refine ⟨(fun k => if k = 0 then c0 else c1, fun k => if k = 0 then iS0 else iS1), ?_⟩
    intro k q hq
    match k, hq with
    | 0, hq => cases hq; exact hKn0
    | 1, hq => cases hq; exact hKn1
    | k + 2, hq => simp [vwCl] at hq
  obtain ⟨cI, aI, fI⟩ := x_arr (hts _ t_a_int)
  obtain ⟨cJ, aJ, fJ⟩ := x_arr (hts _ t_a_long)
  obtain ⟨cZ, aZ, fZ⟩ := x_arr (hts _ t_a_boolean)
  obtain ⟨cA, aA, fA⟩ := x_arr2 (hts _ t_aO)
  have hK : va_K D vwCl (xtys cI cJ cZ cA) s := ⟨hKc, fun k q hq => by
    match k, hq with
    | 0, hq => cases hq; exact ⟨aI, fI⟩
    | 1, hq => cases hq; exact ⟨aJ, fJ⟩
    | 2, hq => cases hq; exact ⟨aZ, fZ⟩
    | 3, hq => cases hq; exact ⟨aA, fA⟩
    | k + 4, hq => simp at hq⟩
  have hfl := flat_of_before _ hgv
  have hN0 : ∀ q ∈ xNo, va_Nc q.1 q.2 s := fun q hq => va_Nc.of (hfl _ (n_start.1 q hq))
  have hA0 : ∀ a : Nat, a < s.heap.size → ¬ s.heap.size ≤ a := fun a h => Nat.not_le.mpr h
  have hE0 : xE RX0 [(61, "the block ends before it begins"), (180, "there is no such row or column"), (183, "there is no such country"), (185, "neither a country nor sea"), (187, "there is no such tint"), (189, "there are not so many tints"), (193, "the country is not there or has no tint")] (fun q : Nat => s.heap.size ≤ q) s := by
    refine ⟨vx_Zqof (hts _ t_tU) (hts _ t_tI) (hfl _ n_start.2.1) hA0, vx_Zqof (hts _ t_tS) (hts _ t_tI) (hfl _ n_start.2.2) hA0, ?_, ?_⟩
    · intro q hq
      simp only [List.mem_cons, List.not_mem_nil, or_false] at hq
      rcases hq with rfl | rfl | rfl | rfl | rfl | rfl | rfl
      · exact x_str (hts _ t_s61)
      · exact x_str (hts _ t_s180)
      · exact x_str (hts _ t_s183)
      · exact x_str (hts _ t_s185)
      · exact x_str (hts _ t_s187)
      · exact x_str (hts _ t_s189)
      · exact x_str (hts _ t_s193)
    · exact xBad_all (va_tabs rfl rfl (hts _ t_d1)) (va_tabs rfl rfl (hts _ t_d2)) (va_tabs rfl rfl (hts _ t_d3)) (va_tabs rfl rfl (hts _ t_c1)) (va_tabs rfl rfl (hts _ t_c2)) (va_tabs rfl rfl (hts _ t_c3))
  have hl := lv_entry ([.ref b]) (n := 8) (Nat.le_of_ble_eq_true rfl)
  rw [lg_entry_eq]
  have hS : va_S (fun q : Nat => s.heap.size ≤ q) s.heap s.heap [] := va_S.rf
  obtain ⟨n0, hn0, hq0⟩ := hpure L xs hL
  have key : ∀ X : xC, X = ((p, l, e, room_1, s, m, #[Value.ref b], below, meth, c), (D, vwCl, (fun q : Nat => s.heap.size ≤ q), xtys cI cJ cZ cA, 8, lw_Z below #[Value.ref b] s)) → xw X 0 0 0 [(0, .ref b)] [] [] := by
    intro X hXe
    have K : xk X l room_1 D vwCl (xtys cI cJ cZ cA) cL_law RL wsL_law 8 := by
      subst hXe
      exact ⟨rfl, rfl, rfl, rfl, rfl, hx, hb, hml, rfl, hown, fun w h => hts w (wsL_law_in w h), hK, fun q h => h, hlocks⟩
    have hE : xEx X RX0 [(61, "the block ends before it begins"), (180, "there is no such row or column"), (183, "there is no such country"), (185, "neither a country nor sea"), (187, "there is no such tint"), (189, "there are not so many tints"), (193, "the country is not there or has no tint")] := by subst hXe; exact hE0
    have hN : xno X := by subst hXe; exact hN0
    have hao : xao X := by subst hXe; exact xAOA_args0 (hts _ t_aO)
    have hsc : xsc X b L xs := by subst hXe; exact ⟨hX, hbl, Nat.not_le.mpr hbl⟩
    have hend : xend X := by
      subst hXe
      intro pc lv ws hd H locs ls hP hD hS hl
      exact va_forget (fun q hq => hS.2.2 q hq) (lw_ret hx hb hr hlocks hd)
    clear hXe
    refine x_new (pc := 0) (ci := 0) (fs := [.null, .int 0, .null, .null, .null, .null, .null, .null]) K inlX0 tyX0 tyX0_ok k_law_new0 k_law_ins0 k_law_ini0 rfl (fun j hj => by rcases (show j = 0 ∨ j = 1 ∨ j = 2 ∨ j = 3 ∨ j = 4 ∨ j = 5 ∨ j = 6 ∨ j = 7 by omega) with rfl | rfl | rfl | rfl | rfl | rfl | rfl | rfl <;> rfl) (Nat.le_of_ble_eq_true rfl) (Nat.le_of_ble_eq_true rfl) dL_law_0 (fun q => ?_)
    refine x_dup (pc := 3) K dL_law_3 rfl ?_
    refine x_ccallI (pc := 4) K hao (c_X0_init l D cI cJ cZ cA q) rfl rfl gL_law_X0_init rfl k_law_ini0 k_law_l0 k_law_i0 rfl (by decide +kernel) ⟨Nat.le_of_ble_eq_true rfl, Nat.le_of_ble_eq_true rfl⟩ (Nat.le_of_ble_eq_true rfl) [0] [] (wr := []) rfl rfl rfl rfl (by decide) dL_law_4 ⟨Nat.le_of_ble_eq_true rfl, Nat.le_of_ble_eq_true rfl⟩ (fun V hV => ?_)
    subst hV
    refine x_ws (ws' := wX0J cI cJ cZ cA V (fun _ => 0) 0 (fun _ => 0) (fun _ => 0) (fun _ => 0) (fun _ => 0) (fun _ => 0) (fun _ _ => 0)) rfl ?_
    refine x_astore_n (lv' := [(0, .ref b), (1, .ref (V 0))]) (pc := 7) K dL_law_7 rfl (by decide) rfl ?_
    refine x_new (pc := 8) (ci := 1) (fs := [.null, .null, .null, .null, .int 0, .null, .null, .int 0]) K inlX1 tyX1 tyX1_ok k_law_new1 k_law_ins1 k_law_ini1 rfl (fun j hj => by rcases (show j = 0 ∨ j = 1 ∨ j = 2 ∨ j = 3 ∨ j = 4 ∨ j = 5 ∨ j = 6 ∨ j = 7 by omega) with rfl | rfl | rfl | rfl | rfl | rfl | rfl | rfl <;> rfl) (Nat.le_of_ble_eq_true rfl) (Nat.le_of_ble_eq_true rfl) dL_law_8 (fun q => ?_)
    refine x_dup (pc := 11) K dL_law_11 rfl ?_
    refine x_ccallI (pc := 12) K hao (c_X1_init l D cI cJ cZ cA q) rfl rfl gL_law_X1_init rfl k_law_ini1 k_law_l1 k_law_i1 rfl (by decide +kernel) ⟨Nat.le_of_ble_eq_true rfl, Nat.le_of_ble_eq_true rfl⟩ (Nat.le_of_ble_eq_true rfl) [18] [0, 1, 2, 3, 4, 5, 6, 7, 8, 9, 10, 11, 12, 13, 14, 15, 16, 17] (wr := wX0J cI cJ cZ cA V (fun _ => 0) 0 (fun _ => 0) (fun _ => 0) (fun _ => 0) (fun _ => 0) (fun _ => 0) (fun _ _ => 0)) rfl rfl rfl rfl (by decide) dL_law_12 ⟨Nat.le_of_ble_eq_true rfl, Nat.le_of_ble_eq_true rfl⟩ (fun U hU => ?_)
    subst hU
    refine x_astore_n (lv' := [(0, .ref b), (1, .ref (V 0)), (2, .ref (U 0))]) (pc := 15) K dL_law_15 rfl (by decide) rfl ?_
    refine x_iconst (v := 1) (pc := 16) K dL_law_16 (by decide) ?_
    refine x_newa (pc := 17) (atype := .long) (ty := .long) (a0 := (1, .inr (.inl (fun _ => 0)))) (N := 1) K 1 rfl (fun _ _ h => h) k_law_aj rfl (fun c => (vp_cell_l c 1 (fun _ => 0))) (by decide) (by decide) (by decide) (Nat.le_of_ble_eq_true rfl) (Nat.le_of_ble_eq_true rfl) dL_law_17 (fun ao => ?_)
    refine x_ws (ws' := wLaw cI cJ cZ cA V U (fun _ => 0) 0 (fun _ => 0) (fun _ => 0) (fun _ => 0) (fun _ => 0) (fun _ => 0) (fun _ _ => 0) cel0 (fun _ => 0) (fun _ => 0) (fun _ => 0) 0 (fun _ => 0) (fun _ => 0) 0 ao (fun _ => 0)) rfl ?_
    refine x_astore_n (lv' := [(0, .ref b), (1, .ref (V 0)), (2, .ref (U 0)), (3, .ref ao)]) (pc := 19) K dL_law_19 rfl (by decide) rfl ?_
    refine x_iconst (v := 0) (pc := 20) K dL_law_20 (by decide) ?_
    refine x_istore (lv' := [(0, .ref b), (1, .ref (V 0)), (2, .ref (U 0)), (3, .ref ao), (4, .int 0)]) (pc := 21) K dL_law_21 (by decide) rfl ?_
    refine x_widen (k := 100) (n := 10000) (Nat.le_of_ble_eq_true rfl) (Nat.le_of_ble_eq_true rfl) ?_
    exact w_L_law_L23 hst K hE hN hsc hend n0 0 (fun _ => 0) 0 (fun _ => 0) (fun _ => 0) (fun _ => 0) (fun _ => 0) (fun _ => 0) (fun _ _ => 0) cel0 (fun _ => 0) (fun _ => 0) (fun _ => 0) 0 (fun _ => 0) (fun _ => 0) 0 (fun _ => 0) 100 10000 (by omega) (by omega) hq0
  exact key _ rfl s.heap [] _ (fun k q h => by simp at h) ⟨fun i j p q h => by simp at h, fun k q h => by simp at h⟩ hS hl
