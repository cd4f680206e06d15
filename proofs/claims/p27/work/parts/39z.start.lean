/-! THE CLAIM OUT OF ONE WALK OF THE LAW'S BODY. Your part is whole_start (and what it stands on); all else here is the same for every law, but numbers. -/
def R_law : String := "FourTintsLaw"
def lw_P (b : Addr) (xs : List Int32) (args : Array Value) (s : State) : Prop := args = #[.ref b] ∧ s.IntsAt b xs ∧ xs.length ≤ 260 ∧ (Jvm.Cond.and given_1 narrow_1).before args s = true
def lw_Q (_ : Array Value) (s : State) (o : Outcome) (t : State) : Prop := o = .returned (some (.int 1)) ∧ Framed s o t [] 600086 7301442
def lw_Z (below : List Frame) (a : Array Value) (s : State) : State → Prop := fun t => ∃ o, t.status = .running ∧ Ended t below o ∧ lw_Q a s o t
/-- the law's own end, with 1 on the stack, nothing written that was there before, its room as the claim has it -/
theorem lw_ret {p : Program} {l : Launch} {e : Env} {s : State} {m : MethodId} {below : List Frame} {meth : Method} {c : Code} {b : Nat} (hx : p.tables.exec = Jvm.exec) (hb : c.code = code) (hr : meth.sig.returnType = ret) (hlocks : meth.locks = false) {pc : Nat} {H : Heap} {ls : Array Slot} (hdg : decode code pc = .ok (.ireturn, 1)) : W p l e room_1 s m #[Value.ref b] below meth c H [] 600086 7301442 (lw_Z below #[Value.ref b] s) (F0 m pc ls [.int 1]) := by
  intro T hT X
  obtain ⟨fs, hret, hrun, hended, hW, hframe⟩ := X.leave (v := some (.int 1)) (hlocks := hlocks) (fun h => by rw [hr] at h; cases h)
  have hmeth' : T.vm.method? m = some meth := X.method'
  refine ⟨T.setFrames fs, ?_, .returned (some (.int 1)), hrun, hended, rfl, ⟨_, rfl⟩, hW, hframe⟩
  jvm_step X.here [X.here.top, hx, hb, hdg, hmeth', hr, ret, narrow_b1]
  (try refine ⟨rfl, ?_⟩); (try refine ⟨rfl, ?_⟩)
  first | (intro acts; rw [hret _ acts rfl rfl rfl]) | rw [hret _ _ rfl rfl rfl]
  exact Steps.refl _
/-- what holds at the law's entry: the machine, the code, the tables' words (any of lw_tbl by 'hts w (by decide +kernel)'), the script of L ints xs at the cell b, what the Statement gives of the start (any of its parts by flat_of_before) -/
def lw_At (p : Program) (s : State) (m : MethodId) (meth : Method) (c : Code) (b L : Nat) (xs : Nat → Int32) : Prop :=
  p.tables.exec = Jvm.exec ∧ c.code = code ∧ meth.sig.returnType = ret ∧ c.maxLocals = 8 ∧ s.vm.findClass R_law = some m.cls ∧ (∀ w ∈ lw_tbl, w.before #[Value.ref b] s = true) ∧ va_X b L xs s s.heap ∧ b < s.heap.size ∧ meth.locks = false ∧ (Jvm.Cond.and given_1 narrow_1).before #[Value.ref b] s = true

theorem x_arr {args : Array Value} {s : State} {ty : FieldType} (h : (Cond.arrayClass ty).before args s = true) : ∃ cA, ArrOfT s cA ty ∧ s.vm.findClass ("[" ++ ty.toString) = some cA := by
  obtain ⟨cA, kA, comp, h1, h2, h3⟩ := Cond.arrayClass_spec h
  exact ⟨cA, fun n z => ⟨fun k h => (by cases h), kA, h2, comp, h3⟩, h1⟩
theorem x_arr2 {args : Array Value} {s : State} (h : (Cond.arrayOver (.array .int)).before args s = true) : ∃ cA, ArrOfT s cA (.array .int) ∧ s.vm.findClass ("[" ++ (FieldType.array .int).toString) = some cA := by
  obtain ⟨comp, c, k, h1, h2, h3, h4, h5⟩ := xAOA_spec h
  exact ⟨c, fun n z => ⟨fun k h => (by cases h), k, h3, comp, h4⟩, h5⟩
theorem k_tbl (n : Nat) (w : Cond) (h : tables_1[n]? = some w) : w ∈ lw_tbl := List.mem_append_right _ (List.mem_of_getElem? h)
theorem t_tU : Cond.laysStatic Bundle.tN "UNASSIGNED_STACK" Bundle.steD ∈ lw_tbl := k_tbl 148 _ (by decide +kernel)
theorem t_tS : Cond.laysStatic Bundle.tN "SUPPRESSED_SENTINEL" Bundle.listD ∈ lw_tbl := k_tbl 150 _ (by decide +kernel)
theorem t_tI : Cond.initialized Bundle.tN ∈ lw_tbl := k_tbl 4 _ (by decide +kernel)
theorem t_aO : Cond.arrayOver (.array .int) ∈ lw_tbl := k_tbl 22 _ (by decide +kernel)
theorem t_a_int : Cond.arrayClass .int ∈ lw_tbl := k_tbl 49 _ (by decide +kernel)
theorem t_a_long : Cond.arrayClass .long ∈ lw_tbl := k_tbl 48 _ (by decide +kernel)
theorem t_a_boolean : Cond.arrayClass .boolean ∈ lw_tbl := k_tbl 50 _ (by decide +kernel)
theorem t_s61 : Cond.stringRef RX0 61 "the block ends before it begins" ∈ lw_tbl := k_tbl 497 _ (by decide +kernel)
theorem t_s180 : Cond.stringRef RX0 180 "there is no such row or column" ∈ lw_tbl := k_tbl 162 _ (by decide +kernel)
theorem t_s183 : Cond.stringRef RX0 183 "there is no such country" ∈ lw_tbl := k_tbl 208 _ (by decide +kernel)
theorem t_s185 : Cond.stringRef RX0 185 "neither a country nor sea" ∈ lw_tbl := k_tbl 477 _ (by decide +kernel)
theorem t_s187 : Cond.stringRef RX0 187 "there is no such tint" ∈ lw_tbl := k_tbl 221 _ (by decide +kernel)
theorem t_s189 : Cond.stringRef RX0 189 "there are not so many tints" ∈ lw_tbl := k_tbl 400 _ (by decide +kernel)
theorem t_s193 : Cond.stringRef RX0 193 "the country is not there or has no tint" ∈ lw_tbl := k_tbl 368 _ (by decide +kernel)
theorem t_d1 : Cond.declares (Bundle.initS "java/lang/RuntimeException") ∈ lw_tbl := k_tbl 125 _ (by decide +kernel)
theorem t_d2 : Cond.declares (Bundle.initS "java/lang/Exception") ∈ lw_tbl := k_tbl 127 _ (by decide +kernel)
theorem t_d3 : Cond.declares (Bundle.initS Bundle.tN) ∈ lw_tbl := k_tbl 129 _ (by decide +kernel)
theorem t_c1 : Cond.castable "java/lang/IndexOutOfBoundsException" "java/lang/IndexOutOfBoundsException" ∈ lw_tbl := k_tbl 123 _ (by decide +kernel)
theorem t_c2 : Cond.castable "java/lang/IllegalArgumentException" "java/lang/IllegalArgumentException" ∈ lw_tbl := k_tbl 214 _ (by decide +kernel)
theorem t_c3 : Cond.castable "java/lang/IllegalStateException" "java/lang/IllegalStateException" ∈ lw_tbl := k_tbl 361 _ (by decide +kernel)
theorem x_str {own text : String} {k : Nat} {args : Array Value} {s : State} (h : (Cond.stringRef own k text).before args s = true) : ∃ sa, vk_R own k text sa s := by
  cases hc : s.vm.findClass own with
  | none =>
    simp only [Cond.before, Cond.holds, Cond.value] at h
    simp [hc] at h
  | some cur =>
    obtain ⟨_, _, _, a, _, _, _, _, _, h6⟩ := Cond.stringRef_spec hc h
    exact ⟨a, vk_R.of h h6⟩
theorem n_start : (∀ q ∈ xNo, Cond.not (.castable q.1 q.2) ∈ flatC (Jvm.Cond.and given_1 narrow_1)) ∧ Cond.isRef (.static Bundle.tN "UNASSIGNED_STACK" Bundle.steD) ∈ flatC (Jvm.Cond.and given_1 narrow_1) ∧ Cond.isRef (.static Bundle.tN "SUPPRESSED_SENTINEL" Bundle.listD) ∈ flatC (Jvm.Cond.and given_1 narrow_1) := by decide +kernel
set_option maxHeartbeats 4000000 in
set_option maxRecDepth 100000 in
theorem whole_open (hpure : ∀ (L : Nat) (xs : Nat → Int32), L ≤ 260 → q_L_law L xs) {p : Program} {e : Env} {s : State} {m : MethodId} {below : List Frame} {meth : Method} {c : Code} (l : Launch) (hflags : l.flags = flags0) {b L : Nat} {xs : Nat → Int32} (hL : L ≤ 260) (C0 : lw_At p s m meth c b L xs) : W p l e room_1 s m #[Value.ref b] below meth c s.heap [] 0 0 (lw_Z below #[Value.ref b] s) (entryFrame m ([Value.ref b] : List Value).toArray 8) := by
  obtain ⟨hx, hb, hr, hml, hown, hts, hX, hbl, hlocks, hgv⟩ := C0
  have hst : l.stackTraces = false := by
    unfold Launch.stackTraces
    rw [hflags]
    decide +kernel
  obtain ⟨c0, iS0, hKn0⟩ := u_known (C := RX0) (T := TX0) (N := 8) (n := 8) hts inX0 (hts _ (wsL_law_in _ k_law_ins0))
  obtain ⟨D, hKc⟩ : ∃ (D : va_G), ∀ (k : Nat) (q : vw_C), vwCl[k]? = some q → u_Kn s q.1 q.2.1 q.2.2 (D.1 k) (D.2 k) := by
    refine ⟨(fun _ => c0, fun _ => iS0), ?_⟩
    intro k q hq
    match k, hq with
    | 0, hq => cases hq; exact hKn0
    | k + 1, hq => simp [vwCl] at hq
  obtain ⟨cI, aI, fI⟩ := x_arr (hts _ t_a_int)
  obtain ⟨cJ, aJ, fJ⟩ := x_arr (hts _ t_a_long)
  obtain ⟨cZ, aZ, fZ⟩ := x_arr (hts _ t_a_boolean)
  obtain ⟨cA, aA, fA⟩ := x_arr2 (hts _ t_aO)
  have hK : va_K D vwCl (xtys cI cJ cZ cA) s := ⟨hKc, fun k q hq => by
    match k, hq with
    | 0, hq => cases hq; exact ⟨aI, fI⟩
    | 1, hq => cases hq; exact ⟨aJ, fJ⟩
    | 2, hq => cases hq; exact ⟨aZ, fZ⟩
    | 3, hq => cases hq; exact ⟨aA, fA⟩
    | k + 4, hq => simp at hq⟩
  have hfl := flat_of_before _ hgv
  have hN0 : ∀ q ∈ xNo, va_Nc q.1 q.2 s := fun q hq => va_Nc.of (hfl _ (n_start.1 q hq))
  have hA0 : ∀ a : Nat, a < s.heap.size → ¬ s.heap.size ≤ a := fun a h => Nat.not_le.mpr h
  have hE0 : xE RX0 [(61, "the block ends before it begins"), (180, "there is no such row or column"), (183, "there is no such country"), (185, "neither a country nor sea"), (187, "there is no such tint"), (189, "there are not so many tints"), (193, "the country is not there or has no tint")] (fun q : Nat => s.heap.size ≤ q) s := by
    refine ⟨vx_Zqof (hts _ t_tU) (hts _ t_tI) (hfl _ n_start.2.1) hA0, vx_Zqof (hts _ t_tS) (hts _ t_tI) (hfl _ n_start.2.2) hA0, ?_, ?_⟩
    · intro q hq
      simp only [List.mem_cons, List.not_mem_nil, or_false] at hq
      rcases hq with rfl | rfl | rfl | rfl | rfl | rfl | rfl
      · exact x_str (hts _ t_s61)
      · exact x_str (hts _ t_s180)
      · exact x_str (hts _ t_s183)
      · exact x_str (hts _ t_s185)
      · exact x_str (hts _ t_s187)
      · exact x_str (hts _ t_s189)
      · exact x_str (hts _ t_s193)
    · exact xBad_all (va_tabs rfl rfl (hts _ t_d1)) (va_tabs rfl rfl (hts _ t_d2)) (va_tabs rfl rfl (hts _ t_d3)) (va_tabs rfl rfl (hts _ t_c1)) (va_tabs rfl rfl (hts _ t_c2)) (va_tabs rfl rfl (hts _ t_c3))
  have hl := lv_entry ([.ref b]) (n := 8) (Nat.le_of_ble_eq_true rfl)
  rw [lg_entry_eq]
  have hS : va_S (fun q : Nat => s.heap.size ≤ q) s.heap s.heap [] := va_S.rf
  have hq0 := hpure L xs hL
  have key : ∀ X : xC, X = ((p, l, e, room_1, s, m, #[Value.ref b], below, meth, c), (D, vwCl, (fun q : Nat => s.heap.size ≤ q), xtys cI cJ cZ cA, 8, lw_Z below #[Value.ref b] s)) → xw X 0 0 0 [(0, .ref b)] [] [] := by
    intro X hXe
    have K : xk X l room_1 D vwCl (xtys cI cJ cZ cA) cL_law RL wsL_law 8 := by
      subst hXe
      exact ⟨rfl, rfl, rfl, rfl, rfl, hx, hb, hml, rfl, hown, fun w h => hts w (wsL_law_in w h), hK, fun q h => h, hlocks⟩
    have hE : xEx X RX0 [(61, "the block ends before it begins"), (180, "there is no such row or column"), (183, "there is no such country"), (185, "neither a country nor sea"), (187, "there is no such tint"), (189, "there are not so many tints"), (193, "the country is not there or has no tint")] := by subst hXe; exact hE0
    have hN : xno X := by subst hXe; exact hN0
    have hao : xao X := by subst hXe; exact xAOA_args0 (hts _ t_aO)
    have hsc : xsc X b L xs := by subst hXe; exact ⟨hX, hbl, Nat.not_le.mpr hbl⟩
    have hend : xend X := by
      subst hXe
      intro pc lv ws hd H locs ls hP hD hS hl
      exact va_forget (fun q hq => hS.2.2 q hq) (lw_ret hx hb hr hlocks hd)
    clear hXe
    exact w_L_law K hE hN hst hsc hao hend hq0
  exact key _ rfl s.heap [] _ (fun k q h => by simp at h) ⟨fun i j p q h => by simp at h, fun k q h => by simp at h⟩ hS hl
