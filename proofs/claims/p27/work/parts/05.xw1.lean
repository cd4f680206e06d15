/-! the layer xw: a machine state as pc, locals, stack, world; rows of the kit over it -/
abbrev xC : Type := (Program × Launch × Env × Room × State × MethodId × Array Value × List Frame × Method × Code) × (va_G × List vw_C × (Nat → Prop) × List (ClassId × FieldType) × Nat × (State → Prop))
def xw : xC → Nat → Nat → Nat → List (Nat × Value) → List Value → va_W → Prop
  | ((p, l, e, R, s, m, args, below, meth, c), (D, cl, A, _, nL, Q)), cells, slots, pc, lv, st, ws => ∀ (H : Heap) (locs : List Loc) (ls : Array Slot), va_P D cl ws H → va_D A ws → va_S A s.heap H locs → lv_has ls nL lv → W p l e R s m args below meth c H locs cells slots Q (F0 m pc ls st)
/-- what is known of the method that runs: its room, launch, tables of classes, code, words -/
def xk : xC → Launch → Room → va_G → List vw_C → List (ClassId × FieldType) → ByteArray → String → List Cond → Nat → Prop
  | ((p, l, _, R, s, m, args, _, meth, c), (D, cl, A, tys, nL, _)), l', R', D', cl', tys', cc, own, Ts, n => l = l' ∧ R = R' ∧ D = D' ∧ cl = cl' ∧ tys = tys' ∧ p.tables.exec = Jvm.exec ∧ c.code = cc ∧ c.maxLocals = nL ∧ nL = n ∧ s.vm.findClass own = some m.cls ∧ (∀ w ∈ Ts, w.before args s = true) ∧ va_K D cl tys s ∧ (∀ q, s.heap.size ≤ q → A q) ∧ meth.locks = false
/-- put a local in its place -/
def xins (i : Nat) (v : Value) : List (Nat × Value) → List (Nat × Value)
  | [] => [(i, v)]
  | q :: r => bif Nat.blt q.1 i then q :: xins i v r else (i, v) :: q :: r
theorem xins_mem {i : Nat} {v : Value} {q : Nat × Value} : ∀ {l : List (Nat × Value)}, q ∈ xins i v l → q ∈ (i, v) :: l
  | [], h => h
  | a :: r, h => by
    unfold xins at h
    cases hb : Nat.blt a.1 i with
    | true =>
      rw [hb] at h
      rcases List.mem_cons.mp h with h | h
      · exact List.mem_cons.mpr (Or.inr (List.mem_cons.mpr (Or.inl h)))
      · rcases List.mem_cons.mp (xins_mem h) with h | h
        · exact List.mem_cons.mpr (Or.inl h)
        · exact List.mem_cons.mpr (Or.inr (List.mem_cons.mpr (Or.inr h)))
    | false =>
      rw [hb] at h
      exact h
theorem xhas_mono {ls : Array Slot} {n : Nat} {l l' : List (Nat × Value)} (h : lv_has ls n l) (hm : ∀ q ∈ l', q ∈ l) : lv_has ls n l' := ⟨h.1, h.2.1, fun q hq => h.2.2 q (hm q hq)⟩
def xst1 (i : Nat) (v : Value) (lv : List (Nat × Value)) : List (Nat × Value) := xins i v (lv.filter (fun q => !(q.1 == i) && !(q.1 + 1 == i && q.2.category == 2)))
def xst2 (i : Nat) (v : Value) (lv : List (Nat × Value)) : List (Nat × Value) := xins i v (lv.filter (fun q => !(q.1 == i) && (!(q.1 == i + 1) && !(q.1 + 1 == i && q.2.category == 2))))
/-- places kept, by a list of marks -/
def xkeep : List Bool → List (Nat × Value) → List (Nat × Value)
  | true :: b, q :: r => q :: xkeep b r
  | false :: b, _ :: r => xkeep b r
  | _, _ => []
theorem xkeep_mem {q : Nat × Value} : ∀ {b : List Bool} {l : List (Nat × Value)}, q ∈ xkeep b l → q ∈ l
  | [], [], h => h
  | [], _ :: _, h => absurd h List.not_mem_nil
  | true :: _, [], h => h
  | false :: _, [], h => h
  | true :: b, a :: r, h => by
    rcases List.mem_cons.mp h with h | h
    · exact List.mem_cons.mpr (Or.inl h)
    · exact List.mem_cons.mpr (Or.inr (xkeep_mem h))
  | false :: b, a :: r, h => List.mem_cons.mpr (Or.inr (xkeep_mem (b := b) h))
theorem xfm {α β : Type} {f : α → Option β} : ∀ {is : List α} {w : List β}, is.map f = w.map some → is.filterMap f = w
  | [], [], _ => rfl
  | [], _ :: _, h => by simp at h
  | _ :: _, [], h => by simp at h
  | i :: is, b :: w, h => by
    simp only [List.map_cons, List.cons.injEq] at h
    rw [List.filterMap_cons, h.1, xfm h.2]
def xushr (x y : Int32) : Int32 := (x.toUInt32 >>> (y.toUInt32 &&& Int32.toUInt32 31)).toInt32
def xlshl (x : Int64) (y : Int32) : Int64 := x <<< (y.toInt64 &&& 63)
def xlshr (x : Int64) (y : Int32) : Int64 := x >>> (y.toInt64 &&& 63)
def xlushr (x : Int64) (y : Int32) : Int64 := (x.toUInt64 >>> (y.toInt64.toUInt64 &&& Int64.toUInt64 63)).toInt64
theorem xin_of {i : Int32} {n : Nat} (h : (!(decide (i < 0) || decide (n ≤ i.toNatClampNeg))) = true) : vp_in i n := by
  intro h2
  rcases h2 with h2 | h2 <;> simp [h2] at h
def xin (i : Int32) (n : Nat) : Bool := !(decide (i < 0) || decide (n ≤ i.toNatClampNeg))
theorem xin_nI {k n : Nat} (h : k < n) (hn : n < 2 ^ 31) : xin (nI k) n = true := by
  have h1 := vp_in_nI h hn
  unfold vp_in at h1
  simp only [not_or] at h1
  simp [xin, h1.1, Nat.not_le.mp h1.2]
/-- a join of ways: the rest, said once -/
def xj1 {α : Type} (rest : α → Prop) (tree : (α → Prop) → Prop) : Prop := tree rest
theorem xj1_o {α : Type} {rest : α → Prop} {tree : (α → Prop) → Prop} (h : xj1 rest tree) : ∃ J : α → Prop, (∀ a, J a → rest a) ∧ tree J := ⟨rest, fun _ h => h, h⟩
theorem xj1_i {α : Type} {rest : α → Prop} {tree : (α → Prop) → Prop} (a : α) (h : ∀ J : α → Prop, J a → tree J) (r : rest a) : xj1 rest tree := h rest r
def xj0 (rest : Prop) (tree : Prop → Prop) : Prop := tree rest
theorem xj0_o {rest : Prop} {tree : Prop → Prop} (h : xj0 rest tree) : ∃ J : Prop, (J → rest) ∧ tree J := ⟨rest, fun h => h, h⟩
theorem xj0_i {rest : Prop} {tree : Prop → Prop} (h : ∀ J : Prop, J → tree J) (r : rest) : xj0 rest tree := h rest r
def xj2 {α β : Type} (rest : α → β → Prop) (tree : (α → β → Prop) → Prop) : Prop := tree rest
theorem xj2_o {α β : Type} {rest : α → β → Prop} {tree : (α → β → Prop) → Prop} (h : xj2 rest tree) : ∃ J : α → β → Prop, (∀ a b, J a b → rest a b) ∧ tree J := ⟨rest, fun _ _ h => h, h⟩
theorem xj2_i {α β : Type} {rest : α → β → Prop} {tree : (α → β → Prop) → Prop} (a : α) (b : β) (h : ∀ J : α → β → Prop, J a b → tree J) (r : rest a b) : xj2 rest tree := h rest r
def xj3 {α β γ : Type} (rest : α → β → γ → Prop) (tree : (α → β → γ → Prop) → Prop) : Prop := tree rest
theorem xj3_o {α β γ : Type} {rest : α → β → γ → Prop} {tree : (α → β → γ → Prop) → Prop} (h : xj3 rest tree) : ∃ J : α → β → γ → Prop, (∀ a b c, J a b c → rest a b c) ∧ tree J := ⟨rest, fun _ _ _ h => h, h⟩
theorem xj3_i {α β γ : Type} {rest : α → β → γ → Prop} {tree : (α → β → γ → Prop) → Prop} (a : α) (b : β) (c : γ) (h : ∀ J : α → β → γ → Prop, J a b c → tree J) (r : rest a b c) : xj3 rest tree := h rest r
def xj4 {α β γ δ : Type} (rest : α → β → γ → δ → Prop) (tree : (α → β → γ → δ → Prop) → Prop) : Prop := tree rest
theorem xj4_o {α β γ δ : Type} {rest : α → β → γ → δ → Prop} {tree : (α → β → γ → δ → Prop) → Prop} (h : xj4 rest tree) : ∃ J : α → β → γ → δ → Prop, (∀ a b c d, J a b c d → rest a b c d) ∧ tree J := ⟨rest, fun _ _ _ _ h => h, h⟩
theorem xj4_i {α β γ δ : Type} {rest : α → β → γ → δ → Prop} {tree : (α → β → γ → δ → Prop) → Prop} (a : α) (b : β) (c : γ) (d : δ) (h : ∀ J : α → β → γ → δ → Prop, J a b c d → tree J) (r : rest a b c d) : xj4 rest tree := h rest r
/-- a value is named -/
def xl {α : Type} (e : α) (f : α → Prop) : Prop := f e
theorem xl_o {α : Type} {e : α} {f : α → Prop} (h : xl e f) : ∃ y, y = e ∧ f y := ⟨e, rfl, h⟩
section XR
variable {X : xC} {l0 : Launch} {R0 : Room} {D0 : va_G} {cl0 : List vw_C} {tys0 : List (ClassId × FieldType)} {cc : ByteArray} {own : String} {Ts : List Cond} {nL cells slots pc : Nat} {lv lv' : List (Nat × Value)} {st : List Value} {ws : va_W}
theorem x_keep (b : List Bool) (h : xkeep b lv = lv') (kk : xw X cells slots pc lv' st ws) : xw X cells slots pc lv st ws := by
  obtain ⟨⟨p, l, e, R, s, m, args, below, meth, c⟩, ⟨D, cl, A, tys, nX, Q⟩⟩ := X
  intro H locs ls hP hD hS hl
  subst h
  exact kk H locs ls hP hD hS (xhas_mono hl (fun q hq => xkeep_mem hq))
theorem x_widen {k n : Nat} (h1 : cells ≤ k) (h2 : slots ≤ n) (kk : xw X k n pc lv st ws) : xw X cells slots pc lv st ws := by
  obtain ⟨⟨p, l, e, R, s, m, args, below, meth, c⟩, ⟨D, cl, A, tys, nX, Q⟩⟩ := X
  intro H locs ls hP hD hS hl
  exact W.widen h1 h2 (kk H locs ls hP hD hS hl)
theorem x_topi {x y : Int32} (h : y = x) (kk : xw X cells slots pc lv (.int y :: st) ws) : xw X cells slots pc lv (.int x :: st) ws := h ▸ kk
theorem x_topl {x y : Int64} (h : y = x) (kk : xw X cells slots pc lv (.long y :: st) ws) : xw X cells slots pc lv (.long x :: st) ws := h ▸ kk
theorem x_wsub (is : List Nat) {ws' : va_W} (h : is.map (fun i => ws[i]?) = ws'.map some) (hn : va_nd is = true) (kk : xw X cells slots pc lv st ws') : xw X cells slots pc lv st ws := by
  obtain ⟨⟨p, l, e, R, s, m, args, below, meth, c⟩, ⟨D, cl, A, tys, nX, Q⟩⟩ := X
  intro H locs ls hP hD hS hl
  exact kk H locs ls (hP.sub is (xfm h)) (hD.sub is hn h) hS hl

theorem x_iload_n (K : xk X l0 R0 D0 cl0 tys0 cc own Ts nL) {k : Fin 4} {i : Nat} {x : Int32} (d : decode cc pc = .ok (.iload_n k, 1)) (j : Nat) (hi : (k : Nat) = i) (hj : lv[j]? = some (i, .int x)) (kk : xw X cells slots (pc + 1) lv (.int x :: st) ws) : xw X cells slots pc lv st ws := by
  obtain ⟨⟨p, l, e, R, s, m, args, below, meth, c⟩, ⟨D, cl, A, tys, nX, Q⟩⟩ := X
  obtain ⟨rfl, rfl, rfl, rfl, rfl, hx, hb, hml, rfl, hown, hts, hK, hA, hlk⟩ := K
  intro H locs ls hP hD hS hl
  exact lv_iload_n hx hb d hi (lv_at hl j hj) (kk H locs ls hP hD hS hl)
theorem x_iload (K : xk X l0 R0 D0 cl0 tys0 cc own Ts nL) {i : Nat} {x : Int32} (d : decode cc pc = .ok (.iload i, 2)) (j : Nat) (hj : lv[j]? = some (i, .int x)) (kk : xw X cells slots (pc + 2) lv (.int x :: st) ws) : xw X cells slots pc lv st ws := by
  obtain ⟨⟨p, l, e, R, s, m, args, below, meth, c⟩, ⟨D, cl, A, tys, nX, Q⟩⟩ := X
  obtain ⟨rfl, rfl, rfl, rfl, rfl, hx, hb, hml, rfl, hown, hts, hK, hA, hlk⟩ := K
  intro H locs ls hP hD hS hl
  exact lv_iload hx hb d (lv_at hl j hj) (kk H locs ls hP hD hS hl)
theorem x_lload_n (K : xk X l0 R0 D0 cl0 tys0 cc own Ts nL) {k : Fin 4} {i : Nat} {x : Int64} (d : decode cc pc = .ok (.lload_n k, 1)) (j : Nat) (hi : (k : Nat) = i) (hj : lv[j]? = some (i, .long x)) (kk : xw X cells slots (pc + 1) lv (.long x :: st) ws) : xw X cells slots pc lv st ws := by
  obtain ⟨⟨p, l, e, R, s, m, args, below, meth, c⟩, ⟨D, cl, A, tys, nX, Q⟩⟩ := X
  obtain ⟨rfl, rfl, rfl, rfl, rfl, hx, hb, hml, rfl, hown, hts, hK, hA, hlk⟩ := K
  intro H locs ls hP hD hS hl
  exact lv_lload_n hx hb d hi (lv_at hl j hj) (kk H locs ls hP hD hS hl)
theorem x_lload (K : xk X l0 R0 D0 cl0 tys0 cc own Ts nL) {i : Nat} {x : Int64} (d : decode cc pc = .ok (.lload i, 2)) (j : Nat) (hj : lv[j]? = some (i, .long x)) (kk : xw X cells slots (pc + 2) lv (.long x :: st) ws) : xw X cells slots pc lv st ws := by
  obtain ⟨⟨p, l, e, R, s, m, args, below, meth, c⟩, ⟨D, cl, A, tys, nX, Q⟩⟩ := X
  obtain ⟨rfl, rfl, rfl, rfl, rfl, hx, hb, hml, rfl, hown, hts, hK, hA, hlk⟩ := K
  intro H locs ls hP hD hS hl
  exact lv_lload hx hb d (lv_at hl j hj) (kk H locs ls hP hD hS hl)
theorem x_aload_n (K : xk X l0 R0 D0 cl0 tys0 cc own Ts nL) {k : Fin 4} {i : Nat} {x : Nat} (d : decode cc pc = .ok (.aload_n k, 1)) (j : Nat) (hi : (k : Nat) = i) (hj : lv[j]? = some (i, .ref x)) (kk : xw X cells slots (pc + 1) lv (.ref x :: st) ws) : xw X cells slots pc lv st ws := by
  obtain ⟨⟨p, l, e, R, s, m, args, below, meth, c⟩, ⟨D, cl, A, tys, nX, Q⟩⟩ := X
  obtain ⟨rfl, rfl, rfl, rfl, rfl, hx, hb, hml, rfl, hown, hts, hK, hA, hlk⟩ := K
  intro H locs ls hP hD hS hl
  exact lv_aload_n hx hb d hi (lv_at hl j hj) (kk H locs ls hP hD hS hl)
theorem x_aload (K : xk X l0 R0 D0 cl0 tys0 cc own Ts nL) {i : Nat} {x : Nat} (d : decode cc pc = .ok (.aload i, 2)) (j : Nat) (hj : lv[j]? = some (i, .ref x)) (kk : xw X cells slots (pc + 2) lv (.ref x :: st) ws) : xw X cells slots pc lv st ws := by
  obtain ⟨⟨p, l, e, R, s, m, args, below, meth, c⟩, ⟨D, cl, A, tys, nX, Q⟩⟩ := X
  obtain ⟨rfl, rfl, rfl, rfl, rfl, hx, hb, hml, rfl, hown, hts, hK, hA, hlk⟩ := K
  intro H locs ls hP hD hS hl
  exact lv_aload hx hb d (lv_at hl j hj) (kk H locs ls hP hD hS hl)
theorem x_istore_n (K : xk X l0 R0 D0 cl0 tys0 cc own Ts nL) {k : Fin 4} {i : Nat} {x : Int32} (d : decode cc pc = .ok (.istore_n k, 1)) (hi : (k : Nat) = i) (hn : i < nL) (h : xst1 i (.int x) lv = lv') (kk : xw X cells slots (pc + 1) lv' (st) ws) : xw X cells slots pc lv (.int x :: st) ws := by
  obtain ⟨⟨p, l, e, R, s, m, args, below, meth, c⟩, ⟨D, cl, A, tys, nX, Q⟩⟩ := X
  obtain ⟨rfl, rfl, rfl, rfl, rfl, hx, hb, hml, rfl, hown, hts, hK, hA, hlk⟩ := K
  intro H locs ls hP hD hS hl
  exact lv_istore_n hx hb d hi hl hn rfl (fun ls hl => kk H locs ls hP hD hS (xhas_mono hl (fun q hq => by subst h; exact xins_mem hq)))
theorem x_istore (K : xk X l0 R0 D0 cl0 tys0 cc own Ts nL) {i : Nat} {x : Int32} (d : decode cc pc = .ok (.istore i, 2)) (hn : i < nL) (h : xst1 i (.int x) lv = lv') (kk : xw X cells slots (pc + 2) lv' (st) ws) : xw X cells slots pc lv (.int x :: st) ws := by
  obtain ⟨⟨p, l, e, R, s, m, args, below, meth, c⟩, ⟨D, cl, A, tys, nX, Q⟩⟩ := X
  obtain ⟨rfl, rfl, rfl, rfl, rfl, hx, hb, hml, rfl, hown, hts, hK, hA, hlk⟩ := K
  intro H locs ls hP hD hS hl
  exact lv_istore hx hb d hl hn rfl (fun ls hl => kk H locs ls hP hD hS (xhas_mono hl (fun q hq => by subst h; exact xins_mem hq)))
theorem x_lstore_n (K : xk X l0 R0 D0 cl0 tys0 cc own Ts nL) {k : Fin 4} {i : Nat} {x : Int64} (d : decode cc pc = .ok (.lstore_n k, 1)) (hi : (k : Nat) = i) (hn : i + 1 < nL) (h : xst2 i (.long x) lv = lv') (kk : xw X cells slots (pc + 1) lv' (st) ws) : xw X cells slots pc lv (.long x :: st) ws := by
  obtain ⟨⟨p, l, e, R, s, m, args, below, meth, c⟩, ⟨D, cl, A, tys, nX, Q⟩⟩ := X
  obtain ⟨rfl, rfl, rfl, rfl, rfl, hx, hb, hml, rfl, hown, hts, hK, hA, hlk⟩ := K
  intro H locs ls hP hD hS hl
  exact lv_lstore_n hx hb d hi hl hn rfl (fun ls hl => kk H locs ls hP hD hS (xhas_mono hl (fun q hq => by subst h; exact xins_mem hq)))
theorem x_lstore (K : xk X l0 R0 D0 cl0 tys0 cc own Ts nL) {i : Nat} {x : Int64} (d : decode cc pc = .ok (.lstore i, 2)) (hn : i + 1 < nL) (h : xst2 i (.long x) lv = lv') (kk : xw X cells slots (pc + 2) lv' (st) ws) : xw X cells slots pc lv (.long x :: st) ws := by
  obtain ⟨⟨p, l, e, R, s, m, args, below, meth, c⟩, ⟨D, cl, A, tys, nX, Q⟩⟩ := X
  obtain ⟨rfl, rfl, rfl, rfl, rfl, hx, hb, hml, rfl, hown, hts, hK, hA, hlk⟩ := K
  intro H locs ls hP hD hS hl
  exact lv_lstore hx hb d hl hn rfl (fun ls hl => kk H locs ls hP hD hS (xhas_mono hl (fun q hq => by subst h; exact xins_mem hq)))
theorem x_astore_n (K : xk X l0 R0 D0 cl0 tys0 cc own Ts nL) {k : Fin 4} {i : Nat} {x : Nat} (d : decode cc pc = .ok (.astore_n k, 1)) (hi : (k : Nat) = i) (hn : i < nL) (h : xst1 i (.ref x) lv = lv') (kk : xw X cells slots (pc + 1) lv' (st) ws) : xw X cells slots pc lv (.ref x :: st) ws := by
  obtain ⟨⟨p, l, e, R, s, m, args, below, meth, c⟩, ⟨D, cl, A, tys, nX, Q⟩⟩ := X
  obtain ⟨rfl, rfl, rfl, rfl, rfl, hx, hb, hml, rfl, hown, hts, hK, hA, hlk⟩ := K
  intro H locs ls hP hD hS hl
  exact lv_astore_n hx hb d hi hl hn rfl (fun ls hl => kk H locs ls hP hD hS (xhas_mono hl (fun q hq => by subst h; exact xins_mem hq)))
theorem x_astore (K : xk X l0 R0 D0 cl0 tys0 cc own Ts nL) {i : Nat} {x : Nat} (d : decode cc pc = .ok (.astore i, 2)) (hn : i < nL) (h : xst1 i (.ref x) lv = lv') (kk : xw X cells slots (pc + 2) lv' (st) ws) : xw X cells slots pc lv (.ref x :: st) ws := by
  obtain ⟨⟨p, l, e, R, s, m, args, below, meth, c⟩, ⟨D, cl, A, tys, nX, Q⟩⟩ := X
  obtain ⟨rfl, rfl, rfl, rfl, rfl, hx, hb, hml, rfl, hown, hts, hK, hA, hlk⟩ := K
  intro H locs ls hP hD hS hl
  exact lv_astore hx hb d hl hn rfl (fun ls hl => kk H locs ls hP hD hS (xhas_mono hl (fun q hq => by subst h; exact xins_mem hq)))
theorem x_iinc (K : xk X l0 R0 D0 cl0 tys0 cc own Ts nL) {i k : Nat} {n : Int} {x v : Int32} (d : decode cc pc = .ok (.iinc i n, 3)) (hk : lv[k]? = some (i, .int x)) (hv : x + Int32.ofInt n = v) (hn : i < nL) (h : xst1 i (.int v) lv = lv') (kk : xw X cells slots (pc + 3) lv' (st) ws) : xw X cells slots pc lv st ws := by
  obtain ⟨⟨p, l, e, R, s, m, args, below, meth, c⟩, ⟨D, cl, A, tys, nX, Q⟩⟩ := X
  obtain ⟨rfl, rfl, rfl, rfl, rfl, hx, hb, hml, rfl, hown, hts, hK, hA, hlk⟩ := K
  intro H locs ls hP hD hS hl
  exact lv_iinc hx hb d hl hk hv hn rfl (fun ls hl => kk H locs ls hP hD hS (xhas_mono hl (fun q hq => by subst h; exact xins_mem hq)))
theorem x_iconst (K : xk X l0 R0 D0 cl0 tys0 cc own Ts nL) {n : Int} {v : Int32} (d : decode cc pc = .ok (.iconst n, 1)) (hv : Int32.ofInt n = v) (kk : xw X cells slots (pc + 1) lv (.int v :: st) ws) : xw X cells slots pc lv st ws := by
  obtain ⟨⟨p, l, e, R, s, m, args, below, meth, c⟩, ⟨D, cl, A, tys, nX, Q⟩⟩ := X
  obtain ⟨rfl, rfl, rfl, rfl, rfl, hx, hb, hml, rfl, hown, hts, hK, hA, hlk⟩ := K
  intro H locs ls hP hD hS hl
  exact lv_iconst hx hb d hv (kk H locs ls hP hD hS hl)
theorem x_bipush (K : xk X l0 R0 D0 cl0 tys0 cc own Ts nL) {n : Int} {v : Int32} (d : decode cc pc = .ok (.bipush n, 2)) (hv : (Int8.ofInt n).toInt32 = v) (kk : xw X cells slots (pc + 2) lv (.int v :: st) ws) : xw X cells slots pc lv st ws := by
  obtain ⟨⟨p, l, e, R, s, m, args, below, meth, c⟩, ⟨D, cl, A, tys, nX, Q⟩⟩ := X
  obtain ⟨rfl, rfl, rfl, rfl, rfl, hx, hb, hml, rfl, hown, hts, hK, hA, hlk⟩ := K
  intro H locs ls hP hD hS hl
  exact lv_bipush hx hb d hv (kk H locs ls hP hD hS hl)
theorem x_sipush (K : xk X l0 R0 D0 cl0 tys0 cc own Ts nL) {n : Int} {v : Int32} (d : decode cc pc = .ok (.sipush n, 3)) (hv : (Int16.ofInt n).toInt32 = v) (kk : xw X cells slots (pc + 3) lv (.int v :: st) ws) : xw X cells slots pc lv st ws := by
  obtain ⟨⟨p, l, e, R, s, m, args, below, meth, c⟩, ⟨D, cl, A, tys, nX, Q⟩⟩ := X
  obtain ⟨rfl, rfl, rfl, rfl, rfl, hx, hb, hml, rfl, hown, hts, hK, hA, hlk⟩ := K
  intro H locs ls hP hD hS hl
  exact lv_sipush hx hb d hv (kk H locs ls hP hD hS hl)
theorem x_lconst (K : xk X l0 R0 D0 cl0 tys0 cc own Ts nL) {n : Fin 2} {v : Int64} (d : decode cc pc = .ok (.lconst n, 1)) (hv : Int64.ofNat (n : Nat) = v) (kk : xw X cells slots (pc + 1) lv (.long v :: st) ws) : xw X cells slots pc lv st ws := by
  obtain ⟨⟨p, l, e, R, s, m, args, below, meth, c⟩, ⟨D, cl, A, tys, nX, Q⟩⟩ := X
  obtain ⟨rfl, rfl, rfl, rfl, rfl, hx, hb, hml, rfl, hown, hts, hK, hA, hlk⟩ := K
  intro H locs ls hP hD hS hl
  exact lv_lconst hx hb d hv (kk H locs ls hP hD hS hl)
theorem x_ldc (K : xk X l0 R0 D0 cl0 tys0 cc own Ts nL) {index : Nat} {v : Int32} (hc : Cond.constant own index v ∈ Ts) (d : decode cc pc = .ok (.ldc index, 2)) (kk : xw X cells slots (pc + 2) lv (.int v :: st) ws) : xw X cells slots pc lv st ws := by
  obtain ⟨⟨p, l, e, R, s, m, args, below, meth, c⟩, ⟨D, cl, A, tys, nX, Q⟩⟩ := X
  obtain ⟨rfl, rfl, rfl, rfl, rfl, hx, hb, hml, rfl, hown, hts, hK, hA, hlk⟩ := K
  intro H locs ls hP hD hS hl
  exact lv_ldc hx hb hown (hts _ hc) d (kk H locs ls hP hD hS hl)
theorem x_ldcw (K : xk X l0 R0 D0 cl0 tys0 cc own Ts nL) {index : Nat} {v : Int32} (hc : Cond.constant own index v ∈ Ts) (d : decode cc pc = .ok (.ldc_w index, 3)) (kk : xw X cells slots (pc + 3) lv (.int v :: st) ws) : xw X cells slots pc lv st ws := by
  obtain ⟨⟨p, l, e, R, s, m, args, below, meth, c⟩, ⟨D, cl, A, tys, nX, Q⟩⟩ := X
  obtain ⟨rfl, rfl, rfl, rfl, rfl, hx, hb, hml, rfl, hown, hts, hK, hA, hlk⟩ := K
  intro H locs ls hP hD hS hl
  exact lv_ldcw hx hb hown (hts _ hc) d (kk H locs ls hP hD hS hl)
theorem x_ldc2 (K : xk X l0 R0 D0 cl0 tys0 cc own Ts nL) {index : Nat} {v : Int64} (hc : Cond.constantLong own index v ∈ Ts) (d : decode cc pc = .ok (.ldc2_w index, 3)) (kk : xw X cells slots (pc + 3) lv (.long v :: st) ws) : xw X cells slots pc lv st ws := by
  obtain ⟨⟨p, l, e, R, s, m, args, below, meth, c⟩, ⟨D, cl, A, tys, nX, Q⟩⟩ := X
  obtain ⟨rfl, rfl, rfl, rfl, rfl, hx, hb, hml, rfl, hown, hts, hK, hA, hlk⟩ := K
  intro H locs ls hP hD hS hl
  exact lv_ldc2 hx hb hown (hts _ hc) d (kk H locs ls hP hD hS hl)
theorem x_iadd (K : xk X l0 R0 D0 cl0 tys0 cc own Ts nL) {x y : Int32} (d : decode cc pc = .ok (.iadd, 1)) (kk : xw X cells slots (pc + 1) lv (.int (x + y) :: st) ws) : xw X cells slots pc lv (.int y :: .int x :: st) ws := by
  obtain ⟨⟨p, l, e, R, s, m, args, below, meth, c⟩, ⟨D, cl, A, tys, nX, Q⟩⟩ := X
  obtain ⟨rfl, rfl, rfl, rfl, rfl, hx, hb, hml, rfl, hown, hts, hK, hA, hlk⟩ := K
  intro H locs ls hP hD hS hl
  exact lv_iadd hx hb d (kk H locs ls hP hD hS hl)
theorem x_isub (K : xk X l0 R0 D0 cl0 tys0 cc own Ts nL) {x y : Int32} (d : decode cc pc = .ok (.isub, 1)) (kk : xw X cells slots (pc + 1) lv (.int (x - y) :: st) ws) : xw X cells slots pc lv (.int y :: .int x :: st) ws := by
  obtain ⟨⟨p, l, e, R, s, m, args, below, meth, c⟩, ⟨D, cl, A, tys, nX, Q⟩⟩ := X
  obtain ⟨rfl, rfl, rfl, rfl, rfl, hx, hb, hml, rfl, hown, hts, hK, hA, hlk⟩ := K
  intro H locs ls hP hD hS hl
  exact lv_isub hx hb d (kk H locs ls hP hD hS hl)
theorem x_imul (K : xk X l0 R0 D0 cl0 tys0 cc own Ts nL) {x y : Int32} (d : decode cc pc = .ok (.imul, 1)) (kk : xw X cells slots (pc + 1) lv (.int (x * y) :: st) ws) : xw X cells slots pc lv (.int y :: .int x :: st) ws := by
  obtain ⟨⟨p, l, e, R, s, m, args, below, meth, c⟩, ⟨D, cl, A, tys, nX, Q⟩⟩ := X
  obtain ⟨rfl, rfl, rfl, rfl, rfl, hx, hb, hml, rfl, hown, hts, hK, hA, hlk⟩ := K
  intro H locs ls hP hD hS hl
  exact lv_imul hx hb d (kk H locs ls hP hD hS hl)
theorem x_iand (K : xk X l0 R0 D0 cl0 tys0 cc own Ts nL) {x y : Int32} (d : decode cc pc = .ok (.iand, 1)) (kk : xw X cells slots (pc + 1) lv (.int (x &&& y) :: st) ws) : xw X cells slots pc lv (.int y :: .int x :: st) ws := by
  obtain ⟨⟨p, l, e, R, s, m, args, below, meth, c⟩, ⟨D, cl, A, tys, nX, Q⟩⟩ := X
  obtain ⟨rfl, rfl, rfl, rfl, rfl, hx, hb, hml, rfl, hown, hts, hK, hA, hlk⟩ := K
  intro H locs ls hP hD hS hl
  exact lv_iand hx hb d (kk H locs ls hP hD hS hl)
theorem x_ior (K : xk X l0 R0 D0 cl0 tys0 cc own Ts nL) {x y : Int32} (d : decode cc pc = .ok (.ior, 1)) (kk : xw X cells slots (pc + 1) lv (.int (x ||| y) :: st) ws) : xw X cells slots pc lv (.int y :: .int x :: st) ws := by
  obtain ⟨⟨p, l, e, R, s, m, args, below, meth, c⟩, ⟨D, cl, A, tys, nX, Q⟩⟩ := X
  obtain ⟨rfl, rfl, rfl, rfl, rfl, hx, hb, hml, rfl, hown, hts, hK, hA, hlk⟩ := K
  intro H locs ls hP hD hS hl
  exact lv_ior hx hb d (kk H locs ls hP hD hS hl)
theorem x_ixor (K : xk X l0 R0 D0 cl0 tys0 cc own Ts nL) {x y : Int32} (d : decode cc pc = .ok (.ixor, 1)) (kk : xw X cells slots (pc + 1) lv (.int (x ^^^ y) :: st) ws) : xw X cells slots pc lv (.int y :: .int x :: st) ws := by
  obtain ⟨⟨p, l, e, R, s, m, args, below, meth, c⟩, ⟨D, cl, A, tys, nX, Q⟩⟩ := X
  obtain ⟨rfl, rfl, rfl, rfl, rfl, hx, hb, hml, rfl, hown, hts, hK, hA, hlk⟩ := K
  intro H locs ls hP hD hS hl
  exact lv_ixor hx hb d (kk H locs ls hP hD hS hl)
theorem x_ishl (K : xk X l0 R0 D0 cl0 tys0 cc own Ts nL) {x y : Int32} (d : decode cc pc = .ok (.ishl, 1)) (kk : xw X cells slots (pc + 1) lv (.int (x <<< (y &&& 31)) :: st) ws) : xw X cells slots pc lv (.int y :: .int x :: st) ws := by
  obtain ⟨⟨p, l, e, R, s, m, args, below, meth, c⟩, ⟨D, cl, A, tys, nX, Q⟩⟩ := X
  obtain ⟨rfl, rfl, rfl, rfl, rfl, hx, hb, hml, rfl, hown, hts, hK, hA, hlk⟩ := K
  intro H locs ls hP hD hS hl
  exact lv_ishl hx hb d (kk H locs ls hP hD hS hl)
theorem x_ishr (K : xk X l0 R0 D0 cl0 tys0 cc own Ts nL) {x y : Int32} (d : decode cc pc = .ok (.ishr, 1)) (kk : xw X cells slots (pc + 1) lv (.int (x >>> (y &&& 31)) :: st) ws) : xw X cells slots pc lv (.int y :: .int x :: st) ws := by
  obtain ⟨⟨p, l, e, R, s, m, args, below, meth, c⟩, ⟨D, cl, A, tys, nX, Q⟩⟩ := X
  obtain ⟨rfl, rfl, rfl, rfl, rfl, hx, hb, hml, rfl, hown, hts, hK, hA, hlk⟩ := K
  intro H locs ls hP hD hS hl
  exact lv_ishr hx hb d (kk H locs ls hP hD hS hl)
theorem x_ladd (K : xk X l0 R0 D0 cl0 tys0 cc own Ts nL) {x y : Int64} (d : decode cc pc = .ok (.ladd, 1)) (kk : xw X cells slots (pc + 1) lv (.long (x + y) :: st) ws) : xw X cells slots pc lv (.long y :: .long x :: st) ws := by
  obtain ⟨⟨p, l, e, R, s, m, args, below, meth, c⟩, ⟨D, cl, A, tys, nX, Q⟩⟩ := X
  obtain ⟨rfl, rfl, rfl, rfl, rfl, hx, hb, hml, rfl, hown, hts, hK, hA, hlk⟩ := K
  intro H locs ls hP hD hS hl
  exact lv_ladd hx hb d (kk H locs ls hP hD hS hl)
theorem x_lsub (K : xk X l0 R0 D0 cl0 tys0 cc own Ts nL) {x y : Int64} (d : decode cc pc = .ok (.lsub, 1)) (kk : xw X cells slots (pc + 1) lv (.long (x - y) :: st) ws) : xw X cells slots pc lv (.long y :: .long x :: st) ws := by
  obtain ⟨⟨p, l, e, R, s, m, args, below, meth, c⟩, ⟨D, cl, A, tys, nX, Q⟩⟩ := X
  obtain ⟨rfl, rfl, rfl, rfl, rfl, hx, hb, hml, rfl, hown, hts, hK, hA, hlk⟩ := K
  intro H locs ls hP hD hS hl
  exact lv_lsub hx hb d (kk H locs ls hP hD hS hl)
theorem x_lmul (K : xk X l0 R0 D0 cl0 tys0 cc own Ts nL) {x y : Int64} (d : decode cc pc = .ok (.lmul, 1)) (kk : xw X cells slots (pc + 1) lv (.long (x * y) :: st) ws) : xw X cells slots pc lv (.long y :: .long x :: st) ws := by
  obtain ⟨⟨p, l, e, R, s, m, args, below, meth, c⟩, ⟨D, cl, A, tys, nX, Q⟩⟩ := X
  obtain ⟨rfl, rfl, rfl, rfl, rfl, hx, hb, hml, rfl, hown, hts, hK, hA, hlk⟩ := K
  intro H locs ls hP hD hS hl
  exact lv_lmul hx hb d (kk H locs ls hP hD hS hl)
theorem x_land (K : xk X l0 R0 D0 cl0 tys0 cc own Ts nL) {x y : Int64} (d : decode cc pc = .ok (.land, 1)) (kk : xw X cells slots (pc + 1) lv (.long (x &&& y) :: st) ws) : xw X cells slots pc lv (.long y :: .long x :: st) ws := by
  obtain ⟨⟨p, l, e, R, s, m, args, below, meth, c⟩, ⟨D, cl, A, tys, nX, Q⟩⟩ := X
  obtain ⟨rfl, rfl, rfl, rfl, rfl, hx, hb, hml, rfl, hown, hts, hK, hA, hlk⟩ := K
  intro H locs ls hP hD hS hl
  exact lv_land hx hb d (kk H locs ls hP hD hS hl)
theorem x_lor (K : xk X l0 R0 D0 cl0 tys0 cc own Ts nL) {x y : Int64} (d : decode cc pc = .ok (.lor, 1)) (kk : xw X cells slots (pc + 1) lv (.long (x ||| y) :: st) ws) : xw X cells slots pc lv (.long y :: .long x :: st) ws := by
  obtain ⟨⟨p, l, e, R, s, m, args, below, meth, c⟩, ⟨D, cl, A, tys, nX, Q⟩⟩ := X
  obtain ⟨rfl, rfl, rfl, rfl, rfl, hx, hb, hml, rfl, hown, hts, hK, hA, hlk⟩ := K
  intro H locs ls hP hD hS hl
  exact lv_lor hx hb d (kk H locs ls hP hD hS hl)
theorem x_lxor (K : xk X l0 R0 D0 cl0 tys0 cc own Ts nL) {x y : Int64} (d : decode cc pc = .ok (.lxor, 1)) (kk : xw X cells slots (pc + 1) lv (.long (x ^^^ y) :: st) ws) : xw X cells slots pc lv (.long y :: .long x :: st) ws := by
  obtain ⟨⟨p, l, e, R, s, m, args, below, meth, c⟩, ⟨D, cl, A, tys, nX, Q⟩⟩ := X
  obtain ⟨rfl, rfl, rfl, rfl, rfl, hx, hb, hml, rfl, hown, hts, hK, hA, hlk⟩ := K
  intro H locs ls hP hD hS hl
  exact lv_lxor hx hb d (kk H locs ls hP hD hS hl)
theorem x_iushr (K : xk X l0 R0 D0 cl0 tys0 cc own Ts nL) {x y : Int32} (d : decode cc pc = .ok (.iushr, 1)) (kk : xw X cells slots (pc + 1) lv (.int (xushr x y) :: st) ws) : xw X cells slots pc lv (.int y :: .int x :: st) ws := by
  obtain ⟨⟨p, l, e, R, s, m, args, below, meth, c⟩, ⟨D, cl, A, tys, nX, Q⟩⟩ := X
  obtain ⟨rfl, rfl, rfl, rfl, rfl, hx, hb, hml, rfl, hown, hts, hK, hA, hlk⟩ := K
  intro H locs ls hP hD hS hl
  exact lv_iushr hx hb d rfl (kk H locs ls hP hD hS hl)
theorem x_lshl (K : xk X l0 R0 D0 cl0 tys0 cc own Ts nL) {x : Int64} {y : Int32} (d : decode cc pc = .ok (.lshl, 1)) (kk : xw X cells slots (pc + 1) lv (.long (xlshl x y) :: st) ws) : xw X cells slots pc lv (.int y :: .long x :: st) ws := by
  obtain ⟨⟨p, l, e, R, s, m, args, below, meth, c⟩, ⟨D, cl, A, tys, nX, Q⟩⟩ := X
  obtain ⟨rfl, rfl, rfl, rfl, rfl, hx, hb, hml, rfl, hown, hts, hK, hA, hlk⟩ := K
  intro H locs ls hP hD hS hl
  exact lv_lshl hx hb d rfl (kk H locs ls hP hD hS hl)
theorem x_lshr (K : xk X l0 R0 D0 cl0 tys0 cc own Ts nL) {x : Int64} {y : Int32} (d : decode cc pc = .ok (.lshr, 1)) (kk : xw X cells slots (pc + 1) lv (.long (xlshr x y) :: st) ws) : xw X cells slots pc lv (.int y :: .long x :: st) ws := by
  obtain ⟨⟨p, l, e, R, s, m, args, below, meth, c⟩, ⟨D, cl, A, tys, nX, Q⟩⟩ := X
  obtain ⟨rfl, rfl, rfl, rfl, rfl, hx, hb, hml, rfl, hown, hts, hK, hA, hlk⟩ := K
  intro H locs ls hP hD hS hl
  exact lv_lshr hx hb d rfl (kk H locs ls hP hD hS hl)
theorem x_lushr (K : xk X l0 R0 D0 cl0 tys0 cc own Ts nL) {x : Int64} {y : Int32} (d : decode cc pc = .ok (.lushr, 1)) (kk : xw X cells slots (pc + 1) lv (.long (xlushr x y) :: st) ws) : xw X cells slots pc lv (.int y :: .long x :: st) ws := by
  obtain ⟨⟨p, l, e, R, s, m, args, below, meth, c⟩, ⟨D, cl, A, tys, nX, Q⟩⟩ := X
  obtain ⟨rfl, rfl, rfl, rfl, rfl, hx, hb, hml, rfl, hown, hts, hK, hA, hlk⟩ := K
  intro H locs ls hP hD hS hl
  exact lv_lushr hx hb d rfl (kk H locs ls hP hD hS hl)
theorem x_ineg (K : xk X l0 R0 D0 cl0 tys0 cc own Ts nL) {x : Int32} (d : decode cc pc = .ok (.ineg, 1)) (kk : xw X cells slots (pc + 1) lv (.int (-x) :: st) ws) : xw X cells slots pc lv (.int x :: st) ws := by
  obtain ⟨⟨p, l, e, R, s, m, args, below, meth, c⟩, ⟨D, cl, A, tys, nX, Q⟩⟩ := X
  obtain ⟨rfl, rfl, rfl, rfl, rfl, hx, hb, hml, rfl, hown, hts, hK, hA, hlk⟩ := K
  intro H locs ls hP hD hS hl
  exact lv_ineg hx hb d (kk H locs ls hP hD hS hl)
theorem x_lneg (K : xk X l0 R0 D0 cl0 tys0 cc own Ts nL) {x : Int64} (d : decode cc pc = .ok (.lneg, 1)) (kk : xw X cells slots (pc + 1) lv (.long (-x) :: st) ws) : xw X cells slots pc lv (.long x :: st) ws := by
  obtain ⟨⟨p, l, e, R, s, m, args, below, meth, c⟩, ⟨D, cl, A, tys, nX, Q⟩⟩ := X
  obtain ⟨rfl, rfl, rfl, rfl, rfl, hx, hb, hml, rfl, hown, hts, hK, hA, hlk⟩ := K
  intro H locs ls hP hD hS hl
  exact lv_lneg hx hb d (kk H locs ls hP hD hS hl)
theorem x_idiv (K : xk X l0 R0 D0 cl0 tys0 cc own Ts nL) {x y : Int32} (hne : ¬ y = 0) (d : decode cc pc = .ok (.idiv, 1)) (kk : xw X cells slots (pc + 1) lv (.int (x / y) :: st) ws) : xw X cells slots pc lv (.int y :: .int x :: st) ws := by
  obtain ⟨⟨p, l, e, R, s, m, args, below, meth, c⟩, ⟨D, cl, A, tys, nX, Q⟩⟩ := X
  obtain ⟨rfl, rfl, rfl, rfl, rfl, hx, hb, hml, rfl, hown, hts, hK, hA, hlk⟩ := K
  intro H locs ls hP hD hS hl
  exact lv_idiv hx hb d hne (kk H locs ls hP hD hS hl)
theorem x_irem (K : xk X l0 R0 D0 cl0 tys0 cc own Ts nL) {x y : Int32} (hne : ¬ y = 0) (d : decode cc pc = .ok (.irem, 1)) (kk : xw X cells slots (pc + 1) lv (.int (x - x / y * y) :: st) ws) : xw X cells slots pc lv (.int y :: .int x :: st) ws := by
  obtain ⟨⟨p, l, e, R, s, m, args, below, meth, c⟩, ⟨D, cl, A, tys, nX, Q⟩⟩ := X
  obtain ⟨rfl, rfl, rfl, rfl, rfl, hx, hb, hml, rfl, hown, hts, hK, hA, hlk⟩ := K
  intro H locs ls hP hD hS hl
  exact lv_irem hx hb d hne (kk H locs ls hP hD hS hl)
theorem x_i2l (K : xk X l0 R0 D0 cl0 tys0 cc own Ts nL) {x : Int32} (d : decode cc pc = .ok (.i2l, 1)) (kk : xw X cells slots (pc + 1) lv (.long (x.toInt64) :: st) ws) : xw X cells slots pc lv (.int x :: st) ws := by
  obtain ⟨⟨p, l, e, R, s, m, args, below, meth, c⟩, ⟨D, cl, A, tys, nX, Q⟩⟩ := X
  obtain ⟨rfl, rfl, rfl, rfl, rfl, hx, hb, hml, rfl, hown, hts, hK, hA, hlk⟩ := K
  intro H locs ls hP hD hS hl
  exact lv_i2l hx hb d rfl (kk H locs ls hP hD hS hl)
theorem x_l2i (K : xk X l0 R0 D0 cl0 tys0 cc own Ts nL) {x : Int64} (d : decode cc pc = .ok (.l2i, 1)) (kk : xw X cells slots (pc + 1) lv (.int (x.toInt32) :: st) ws) : xw X cells slots pc lv (.long x :: st) ws := by
  obtain ⟨⟨p, l, e, R, s, m, args, below, meth, c⟩, ⟨D, cl, A, tys, nX, Q⟩⟩ := X
  obtain ⟨rfl, rfl, rfl, rfl, rfl, hx, hb, hml, rfl, hown, hts, hK, hA, hlk⟩ := K
  intro H locs ls hP hD hS hl
  exact lv_l2i hx hb d rfl (kk H locs ls hP hD hS hl)
theorem x_lcmp (K : xk X l0 R0 D0 cl0 tys0 cc own Ts nL) {x y : Int64} (d : decode cc pc = .ok (.lcmp, 1)) (kk : xw X cells slots (pc + 1) lv (.int (lg_cmp x y) :: st) ws) : xw X cells slots pc lv (.long y :: .long x :: st) ws := by
  obtain ⟨⟨p, l, e, R, s, m, args, below, meth, c⟩, ⟨D, cl, A, tys, nX, Q⟩⟩ := X
  obtain ⟨rfl, rfl, rfl, rfl, rfl, hx, hb, hml, rfl, hown, hts, hK, hA, hlk⟩ := K
  intro H locs ls hP hD hS hl
  exact W.lcmp hx hb d (kk H locs ls hP hD hS hl)
theorem x_dup (K : xk X l0 R0 D0 cl0 tys0 cc own Ts nL) {va : Value} (d : decode cc pc = .ok (.dup, 1)) (hva : va.category = 1) (kk : xw X cells slots (pc + 1) lv (va :: va :: st) ws) : xw X cells slots pc lv (va :: st) ws := by
  obtain ⟨⟨p, l, e, R, s, m, args, below, meth, c⟩, ⟨D, cl, A, tys, nX, Q⟩⟩ := X
  obtain ⟨rfl, rfl, rfl, rfl, rfl, hx, hb, hml, rfl, hown, hts, hK, hA, hlk⟩ := K
  intro H locs ls hP hD hS hl
  exact lv_dup hx hb d hva (kk H locs ls hP hD hS hl)
theorem x_dup2 (K : xk X l0 R0 D0 cl0 tys0 cc own Ts nL) {va vb : Value} (d : decode cc pc = .ok (.dup2, 1)) (hva : va.category = 1) (hvb : vb.category = 1) (kk : xw X cells slots (pc + 1) lv (va :: vb :: va :: vb :: st) ws) : xw X cells slots pc lv (va :: vb :: st) ws := by
  obtain ⟨⟨p, l, e, R, s, m, args, below, meth, c⟩, ⟨D, cl, A, tys, nX, Q⟩⟩ := X
  obtain ⟨rfl, rfl, rfl, rfl, rfl, hx, hb, hml, rfl, hown, hts, hK, hA, hlk⟩ := K
  intro H locs ls hP hD hS hl
  exact lv_dup2_11 hx hb d hva hvb (kk H locs ls hP hD hS hl)
theorem x_pop (K : xk X l0 R0 D0 cl0 tys0 cc own Ts nL) {va : Value} (d : decode cc pc = .ok (.pop, 1)) (hva : va.category = 1) (kk : xw X cells slots (pc + 1) lv (st) ws) : xw X cells slots pc lv (va :: st) ws := by
  obtain ⟨⟨p, l, e, R, s, m, args, below, meth, c⟩, ⟨D, cl, A, tys, nX, Q⟩⟩ := X
  obtain ⟨rfl, rfl, rfl, rfl, rfl, hx, hb, hml, rfl, hown, hts, hK, hA, hlk⟩ := K
  intro H locs ls hP hD hS hl
  exact lv_pop hx hb d hva (kk H locs ls hP hD hS hl)
theorem x_goto (K : xk X l0 R0 D0 cl0 tys0 cc own Ts nL) {off : Int} {tgt : Nat} (d : decode cc pc = .ok (.goto off, 3)) (ht : (pc : Int) + off = (tgt : Int)) (kk : xw X cells slots tgt lv st ws) : xw X cells slots pc lv st ws := by
  obtain ⟨⟨p, l, e, R, s, m, args, below, meth, c⟩, ⟨D, cl, A, tys, nX, Q⟩⟩ := X
  obtain ⟨rfl, rfl, rfl, rfl, rfl, hx, hb, hml, rfl, hown, hts, hK, hA, hlk⟩ := K
  intro H locs ls hP hD hS hl
  exact lv_goto hx hb d ht (kk H locs ls hP hD hS hl)
theorem x_icmp_eq (K : xk X l0 R0 D0 cl0 tys0 cc own Ts nL) {x y : Int32} {off : Int} {tgt : Nat} (d : decode cc pc = .ok (.if_icmp .eq off, 3)) (ht : (pc : Int) + off = (tgt : Int)) (kt : x = y → xw X cells slots tgt lv st ws) (kf : ¬ x = y → xw X cells slots (pc + 3) lv st ws) : xw X cells slots pc lv (.int y :: .int x :: st) ws := by
  obtain ⟨⟨p, l, e, R, s, m, args, below, meth, c⟩, ⟨D, cl, A, tys, nX, Q⟩⟩ := X
  obtain ⟨rfl, rfl, rfl, rfl, rfl, hx, hb, hml, rfl, hown, hts, hK, hA, hlk⟩ := K
  intro H locs ls hP hD hS hl
  exact lv_icmp_eq hx hb d ht (fun h => kt h H locs ls hP hD hS hl) (fun h => kf h H locs ls hP hD hS hl)
theorem x_if_eq (K : xk X l0 R0 D0 cl0 tys0 cc own Ts nL) {x : Int32} {off : Int} {tgt : Nat} (d : decode cc pc = .ok (.ifCond .eq off, 3)) (ht : (pc : Int) + off = (tgt : Int)) (kt : x = 0 → xw X cells slots tgt lv st ws) (kf : ¬ x = 0 → xw X cells slots (pc + 3) lv st ws) : xw X cells slots pc lv (.int x :: st) ws := by
  obtain ⟨⟨p, l, e, R, s, m, args, below, meth, c⟩, ⟨D, cl, A, tys, nX, Q⟩⟩ := X
  obtain ⟨rfl, rfl, rfl, rfl, rfl, hx, hb, hml, rfl, hown, hts, hK, hA, hlk⟩ := K
  intro H locs ls hP hD hS hl
  exact lv_if_eq hx hb d ht (fun h => kt h H locs ls hP hD hS hl) (fun h => kf h H locs ls hP hD hS hl)
theorem x_icmp_ne (K : xk X l0 R0 D0 cl0 tys0 cc own Ts nL) {x y : Int32} {off : Int} {tgt : Nat} (d : decode cc pc = .ok (.if_icmp .ne off, 3)) (ht : (pc : Int) + off = (tgt : Int)) (kt : ¬ x = y → xw X cells slots tgt lv st ws) (kf : x = y → xw X cells slots (pc + 3) lv st ws) : xw X cells slots pc lv (.int y :: .int x :: st) ws := by
  obtain ⟨⟨p, l, e, R, s, m, args, below, meth, c⟩, ⟨D, cl, A, tys, nX, Q⟩⟩ := X
  obtain ⟨rfl, rfl, rfl, rfl, rfl, hx, hb, hml, rfl, hown, hts, hK, hA, hlk⟩ := K
  intro H locs ls hP hD hS hl
  exact lv_icmp_ne hx hb d ht (fun h => kt h H locs ls hP hD hS hl) (fun h => kf h H locs ls hP hD hS hl)
theorem x_if_ne (K : xk X l0 R0 D0 cl0 tys0 cc own Ts nL) {x : Int32} {off : Int} {tgt : Nat} (d : decode cc pc = .ok (.ifCond .ne off, 3)) (ht : (pc : Int) + off = (tgt : Int)) (kt : ¬ x = 0 → xw X cells slots tgt lv st ws) (kf : x = 0 → xw X cells slots (pc + 3) lv st ws) : xw X cells slots pc lv (.int x :: st) ws := by
  obtain ⟨⟨p, l, e, R, s, m, args, below, meth, c⟩, ⟨D, cl, A, tys, nX, Q⟩⟩ := X
  obtain ⟨rfl, rfl, rfl, rfl, rfl, hx, hb, hml, rfl, hown, hts, hK, hA, hlk⟩ := K
  intro H locs ls hP hD hS hl
  exact lv_if_ne hx hb d ht (fun h => kt h H locs ls hP hD hS hl) (fun h => kf h H locs ls hP hD hS hl)
theorem x_icmp_lt (K : xk X l0 R0 D0 cl0 tys0 cc own Ts nL) {x y : Int32} {off : Int} {tgt : Nat} (d : decode cc pc = .ok (.if_icmp .lt off, 3)) (ht : (pc : Int) + off = (tgt : Int)) (kt : x < y → xw X cells slots tgt lv st ws) (kf : ¬ x < y → xw X cells slots (pc + 3) lv st ws) : xw X cells slots pc lv (.int y :: .int x :: st) ws := by
  obtain ⟨⟨p, l, e, R, s, m, args, below, meth, c⟩, ⟨D, cl, A, tys, nX, Q⟩⟩ := X
  obtain ⟨rfl, rfl, rfl, rfl, rfl, hx, hb, hml, rfl, hown, hts, hK, hA, hlk⟩ := K
  intro H locs ls hP hD hS hl
  exact lv_icmp_lt hx hb d ht (fun h => kt h H locs ls hP hD hS hl) (fun h => kf h H locs ls hP hD hS hl)
theorem x_if_lt (K : xk X l0 R0 D0 cl0 tys0 cc own Ts nL) {x : Int32} {off : Int} {tgt : Nat} (d : decode cc pc = .ok (.ifCond .lt off, 3)) (ht : (pc : Int) + off = (tgt : Int)) (kt : x < 0 → xw X cells slots tgt lv st ws) (kf : ¬ x < 0 → xw X cells slots (pc + 3) lv st ws) : xw X cells slots pc lv (.int x :: st) ws := by
  obtain ⟨⟨p, l, e, R, s, m, args, below, meth, c⟩, ⟨D, cl, A, tys, nX, Q⟩⟩ := X
  obtain ⟨rfl, rfl, rfl, rfl, rfl, hx, hb, hml, rfl, hown, hts, hK, hA, hlk⟩ := K
  intro H locs ls hP hD hS hl
  exact lv_if_lt hx hb d ht (fun h => kt h H locs ls hP hD hS hl) (fun h => kf h H locs ls hP hD hS hl)
theorem x_icmp_ge (K : xk X l0 R0 D0 cl0 tys0 cc own Ts nL) {x y : Int32} {off : Int} {tgt : Nat} (d : decode cc pc = .ok (.if_icmp .ge off, 3)) (ht : (pc : Int) + off = (tgt : Int)) (kt : y ≤ x → xw X cells slots tgt lv st ws) (kf : ¬ y ≤ x → xw X cells slots (pc + 3) lv st ws) : xw X cells slots pc lv (.int y :: .int x :: st) ws := by
  obtain ⟨⟨p, l, e, R, s, m, args, below, meth, c⟩, ⟨D, cl, A, tys, nX, Q⟩⟩ := X
  obtain ⟨rfl, rfl, rfl, rfl, rfl, hx, hb, hml, rfl, hown, hts, hK, hA, hlk⟩ := K
  intro H locs ls hP hD hS hl
  exact lv_icmp_ge hx hb d ht (fun h => kt h H locs ls hP hD hS hl) (fun h => kf h H locs ls hP hD hS hl)
theorem x_if_ge (K : xk X l0 R0 D0 cl0 tys0 cc own Ts nL) {x : Int32} {off : Int} {tgt : Nat} (d : decode cc pc = .ok (.ifCond .ge off, 3)) (ht : (pc : Int) + off = (tgt : Int)) (kt : 0 ≤ x → xw X cells slots tgt lv st ws) (kf : ¬ 0 ≤ x → xw X cells slots (pc + 3) lv st ws) : xw X cells slots pc lv (.int x :: st) ws := by
  obtain ⟨⟨p, l, e, R, s, m, args, below, meth, c⟩, ⟨D, cl, A, tys, nX, Q⟩⟩ := X
  obtain ⟨rfl, rfl, rfl, rfl, rfl, hx, hb, hml, rfl, hown, hts, hK, hA, hlk⟩ := K
  intro H locs ls hP hD hS hl
  exact lv_if_ge hx hb d ht (fun h => kt h H locs ls hP hD hS hl) (fun h => kf h H locs ls hP hD hS hl)
theorem x_icmp_gt (K : xk X l0 R0 D0 cl0 tys0 cc own Ts nL) {x y : Int32} {off : Int} {tgt : Nat} (d : decode cc pc = .ok (.if_icmp .gt off, 3)) (ht : (pc : Int) + off = (tgt : Int)) (kt : y < x → xw X cells slots tgt lv st ws) (kf : ¬ y < x → xw X cells slots (pc + 3) lv st ws) : xw X cells slots pc lv (.int y :: .int x :: st) ws := by
  obtain ⟨⟨p, l, e, R, s, m, args, below, meth, c⟩, ⟨D, cl, A, tys, nX, Q⟩⟩ := X
  obtain ⟨rfl, rfl, rfl, rfl, rfl, hx, hb, hml, rfl, hown, hts, hK, hA, hlk⟩ := K
  intro H locs ls hP hD hS hl
  exact lv_icmp_gt hx hb d ht (fun h => kt h H locs ls hP hD hS hl) (fun h => kf h H locs ls hP hD hS hl)
theorem x_if_gt (K : xk X l0 R0 D0 cl0 tys0 cc own Ts nL) {x : Int32} {off : Int} {tgt : Nat} (d : decode cc pc = .ok (.ifCond .gt off, 3)) (ht : (pc : Int) + off = (tgt : Int)) (kt : 0 < x → xw X cells slots tgt lv st ws) (kf : ¬ 0 < x → xw X cells slots (pc + 3) lv st ws) : xw X cells slots pc lv (.int x :: st) ws := by
  obtain ⟨⟨p, l, e, R, s, m, args, below, meth, c⟩, ⟨D, cl, A, tys, nX, Q⟩⟩ := X
  obtain ⟨rfl, rfl, rfl, rfl, rfl, hx, hb, hml, rfl, hown, hts, hK, hA, hlk⟩ := K
  intro H locs ls hP hD hS hl
  exact lv_if_gt hx hb d ht (fun h => kt h H locs ls hP hD hS hl) (fun h => kf h H locs ls hP hD hS hl)
theorem x_icmp_le (K : xk X l0 R0 D0 cl0 tys0 cc own Ts nL) {x y : Int32} {off : Int} {tgt : Nat} (d : decode cc pc = .ok (.if_icmp .le off, 3)) (ht : (pc : Int) + off = (tgt : Int)) (kt : x ≤ y → xw X cells slots tgt lv st ws) (kf : ¬ x ≤ y → xw X cells slots (pc + 3) lv st ws) : xw X cells slots pc lv (.int y :: .int x :: st) ws := by
  obtain ⟨⟨p, l, e, R, s, m, args, below, meth, c⟩, ⟨D, cl, A, tys, nX, Q⟩⟩ := X
  obtain ⟨rfl, rfl, rfl, rfl, rfl, hx, hb, hml, rfl, hown, hts, hK, hA, hlk⟩ := K
  intro H locs ls hP hD hS hl
  exact lv_icmp_le hx hb d ht (fun h => kt h H locs ls hP hD hS hl) (fun h => kf h H locs ls hP hD hS hl)
theorem x_if_le (K : xk X l0 R0 D0 cl0 tys0 cc own Ts nL) {x : Int32} {off : Int} {tgt : Nat} (d : decode cc pc = .ok (.ifCond .le off, 3)) (ht : (pc : Int) + off = (tgt : Int)) (kt : x ≤ 0 → xw X cells slots tgt lv st ws) (kf : ¬ x ≤ 0 → xw X cells slots (pc + 3) lv st ws) : xw X cells slots pc lv (.int x :: st) ws := by
  obtain ⟨⟨p, l, e, R, s, m, args, below, meth, c⟩, ⟨D, cl, A, tys, nX, Q⟩⟩ := X
  obtain ⟨rfl, rfl, rfl, rfl, rfl, hx, hb, hml, rfl, hown, hts, hK, hA, hlk⟩ := K
  intro H locs ls hP hD hS hl
  exact lv_if_le hx hb d ht (fun h => kt h H locs ls hP hD hS hl) (fun h => kf h H locs ls hP hD hS hl)
theorem x_iald (K : xk X l0 R0 D0 cl0 tys0 cc own Ts nL) {a n : Nat} {cA : ClassId} {f : Nat → Int32} {i : Int32} (q0 t0 : Nat) (ht : tys0[t0]? = some (cA, .int)) (ha : ws[q0]? = some (a, .inl (cA, n, .inl f))) (hin : xin i n = true) (d : decode cc pc = .ok (.iaload, 1)) (kk : xw X cells slots (pc + 1) lv (.int (f i.toNatClampNeg) :: st) ws) : xw X cells slots pc lv (.int i :: .ref a :: st) ws := by
  obtain ⟨⟨p, l, e, R, s, m, args, below, meth, c⟩, ⟨D, cl, A, tys, nX, Q⟩⟩ := X
  obtain ⟨rfl, rfl, rfl, rfl, rfl, hx, hb, hml, rfl, hown, hts, hK, hA, hlk⟩ := K
  intro H locs ls hP hD hS hl
  exact va_iald hx hb hK hP q0 t0 ha ht (xin_of hin) d (kk H locs ls hP hD hS hl)
theorem x_lald (K : xk X l0 R0 D0 cl0 tys0 cc own Ts nL) {a n : Nat} {cA : ClassId} {f : Nat → Int64} {i : Int32} (q0 t0 : Nat) (ht : tys0[t0]? = some (cA, .long)) (ha : ws[q0]? = some (a, .inl (cA, n, .inr (.inl f)))) (hin : xin i n = true) (d : decode cc pc = .ok (.laload, 1)) (kk : xw X cells slots (pc + 1) lv (.long (f i.toNatClampNeg) :: st) ws) : xw X cells slots pc lv (.int i :: .ref a :: st) ws := by
  obtain ⟨⟨p, l, e, R, s, m, args, below, meth, c⟩, ⟨D, cl, A, tys, nX, Q⟩⟩ := X
  obtain ⟨rfl, rfl, rfl, rfl, rfl, hx, hb, hml, rfl, hown, hts, hK, hA, hlk⟩ := K
  intro H locs ls hP hD hS hl
  exact va_lald hx hb hK hP q0 t0 ha ht (xin_of hin) d (kk H locs ls hP hD hS hl)
theorem x_zald (K : xk X l0 R0 D0 cl0 tys0 cc own Ts nL) {a n : Nat} {cA : ClassId} {f : Nat → Int32} {i : Int32} (q0 t0 : Nat) (ht : tys0[t0]? = some (cA, .boolean)) (ha : ws[q0]? = some (a, .inl (cA, n, .inl f))) (hin : xin i n = true) (d : decode cc pc = .ok (.baload, 1)) (kk : xw X cells slots (pc + 1) lv (.int (f i.toNatClampNeg) :: st) ws) : xw X cells slots pc lv (.int i :: .ref a :: st) ws := by
  obtain ⟨⟨p, l, e, R, s, m, args, below, meth, c⟩, ⟨D, cl, A, tys, nX, Q⟩⟩ := X
  obtain ⟨rfl, rfl, rfl, rfl, rfl, hx, hb, hml, rfl, hown, hts, hK, hA, hlk⟩ := K
  intro H locs ls hP hD hS hl
  exact va_zald hx hb hK hP q0 t0 ha ht (xin_of hin) d (kk H locs ls hP hD hS hl)
theorem x_aald (K : xk X l0 R0 D0 cl0 tys0 cc own Ts nL) {a n : Nat} {cA : ClassId} {f : Nat → Option Nat} {i : Int32} {ty : FieldType} (q0 t0 : Nat) (ht : tys0[t0]? = some (cA, ty)) (hty : refKind ty = true) (ha : ws[q0]? = some (a, .inl (cA, n, .inr (.inr (.inr (.inr f)))))) (hin : xin i n = true) (d : decode cc pc = .ok (.aaload, 1)) (kk : xw X cells slots (pc + 1) lv (va_rf (f i.toNatClampNeg) :: st) ws) : xw X cells slots pc lv (.int i :: .ref a :: st) ws := by
  obtain ⟨⟨p, l, e, R, s, m, args, below, meth, c⟩, ⟨D, cl, A, tys, nX, Q⟩⟩ := X
  obtain ⟨rfl, rfl, rfl, rfl, rfl, hx, hb, hml, rfl, hown, hts, hK, hA, hlk⟩ := K
  intro H locs ls hP hD hS hl
  have hin2 := xin_of hin
  have hlt : i.toNatClampNeg < n := Nat.not_le.mp fun q => hin2 (Or.inr q)
  exact W.aald (v := va_rf (f i.toNatClampNeg)) (ty := ty) hx hb (hP q0 _ ha) ((hK.2 t0 _ ht).1 n (fun j => va_rf (f j))) hty (fun q => by cases q) (by show ¬ (i < 0 ∨ (arrV _ _ _).slots.size ≤ _); rw [arrV_size]; exact hin2) (by show (arrV _ _ _).slots[_]? = _; rw [arrV_read _ _ hlt]) rfl rfl d (kk H locs ls hP hD hS hl)
theorem x_iast (K : xk X l0 R0 D0 cl0 tys0 cc own Ts nL) {a n : Nat} {cA : ClassId} {f : Nat → Int32} {i : Int32} {x : Int32} {ws' : va_W} (q0 t0 : Nat) (ht : tys0[t0]? = some (cA, .int)) (ha : ws[q0]? = some (a, .inl (cA, n, .inl f))) (hw : ws.set q0 (a, .inl (cA, n, .inl (upd f i.toNatClampNeg x))) = ws') (hin : xin i n = true) (d : decode cc pc = .ok (.iastore, 1)) (kk : xw X cells slots (pc + 1) lv st ws') : xw X cells slots pc lv (.int x :: .int i :: .ref a :: st) ws := by
  obtain ⟨⟨p, l, e, R, s, m, args, below, meth, c⟩, ⟨D, cl, A, tys, nX, Q⟩⟩ := X
  obtain ⟨rfl, rfl, rfl, rfl, rfl, hx, hb, hml, rfl, hown, hts, hK, hA, hlk⟩ := K
  intro H locs ls hP hD hS hl
  subst hw
  exact va_iast hx hb hK hP hD hS q0 t0 ha ht (xin_of hin) d (fun H locs hP hD hS => kk H locs ls hP hD hS hl)
theorem x_last (K : xk X l0 R0 D0 cl0 tys0 cc own Ts nL) {a n : Nat} {cA : ClassId} {f : Nat → Int64} {i : Int32} {x : Int64} {ws' : va_W} (q0 t0 : Nat) (ht : tys0[t0]? = some (cA, .long)) (ha : ws[q0]? = some (a, .inl (cA, n, .inr (.inl f)))) (hw : ws.set q0 (a, .inl (cA, n, .inr (.inl (vp_updL f i.toNatClampNeg x)))) = ws') (hin : xin i n = true) (d : decode cc pc = .ok (.lastore, 1)) (kk : xw X cells slots (pc + 1) lv st ws') : xw X cells slots pc lv (.long x :: .int i :: .ref a :: st) ws := by
  obtain ⟨⟨p, l, e, R, s, m, args, below, meth, c⟩, ⟨D, cl, A, tys, nX, Q⟩⟩ := X
  obtain ⟨rfl, rfl, rfl, rfl, rfl, hx, hb, hml, rfl, hown, hts, hK, hA, hlk⟩ := K
  intro H locs ls hP hD hS hl
  subst hw
  exact va_last hx hb hK hP hD hS q0 t0 ha ht (xin_of hin) d (fun H locs hP hD hS => kk H locs ls hP hD hS hl)
theorem x_zast (K : xk X l0 R0 D0 cl0 tys0 cc own Ts nL) {a n : Nat} {cA : ClassId} {f : Nat → Int32} {i : Int32} {x : Int32} {ws' : va_W} (q0 t0 : Nat) (ht : tys0[t0]? = some (cA, .boolean)) (ha : ws[q0]? = some (a, .inl (cA, n, .inl f))) (hw : ws.set q0 (a, .inl (cA, n, .inl (upd f i.toNatClampNeg (vp_nar .boolean x)))) = ws') (hin : xin i n = true) (d : decode cc pc = .ok (.bastore, 1)) (kk : xw X cells slots (pc + 1) lv st ws') : xw X cells slots pc lv (.int x :: .int i :: .ref a :: st) ws := by
  obtain ⟨⟨p, l, e, R, s, m, args, below, meth, c⟩, ⟨D, cl, A, tys, nX, Q⟩⟩ := X
  obtain ⟨rfl, rfl, rfl, rfl, rfl, hx, hb, hml, rfl, hown, hts, hK, hA, hlk⟩ := K
  intro H locs ls hP hD hS hl
  subst hw
  exact va_zast hx hb hK hP hD hS q0 t0 ha ht (xin_of hin) d (fun H locs hP hD hS => kk H locs ls hP hD hS hl)
theorem x_alen (K : xk X l0 R0 D0 cl0 tys0 cc own Ts nL) {a n : Nat} {cA : ClassId} {z : ((Nat → Int32) ⊕ (Nat → Int64) ⊕ (Nat → UInt32) ⊕ (Nat → UInt64) ⊕ (Nat → Option Nat))} {ty : FieldType} (q0 t0 : Nat) (ht : tys0[t0]? = some (cA, ty)) (ha : ws[q0]? = some (a, .inl (cA, n, z))) (d : decode cc pc = .ok (.arraylength, 1)) (kk : xw X cells slots (pc + 1) lv (.int (nI n) :: st) ws) : xw X cells slots pc lv (.ref a :: st) ws := by
  obtain ⟨⟨p, l, e, R, s, m, args, below, meth, c⟩, ⟨D, cl, A, tys, nX, Q⟩⟩ := X
  obtain ⟨rfl, rfl, rfl, rfl, rfl, hx, hb, hml, rfl, hown, hts, hK, hA, hlk⟩ := K
  intro H locs ls hP hD hS hl
  exact va_alen hx hb hK hP q0 t0 ha ht rfl d (kk H locs ls hP hD hS hl)
theorem x_get (K : xk X l0 R0 D0 cl0 tys0 cc own Ts nL) {ref C : String} {T : u_T} {N ci index a : Nat} {fs : List Value} {v : Value} (hin : ∀ w ∈ u_ws C T N, w ∈ Ts) (q0 : Nat) (hc : cl0[ci]? = some (C, T, N)) (he : ws[q0]? = some (a, .inr (ci, fs))) (k : Nat) (hk : k < N) (hlink : Cond.fieldLink own index ref (T k).2.1 (T k).2.2.1 ∈ Ts) (hs : (T k).1 = ref) (hv : fs[k]? = some v) (d : decode cc pc = .ok (.getfield index, 3)) (kk : xw X cells slots (pc + 3) lv (v :: st) ws) : xw X cells slots pc lv (.ref a :: st) ws := by
  obtain ⟨⟨p, l, e, R, s, m, args, below, meth, c⟩, ⟨D, cl, A, tys, nX, Q⟩⟩ := X
  obtain ⟨rfl, rfl, rfl, rfl, rfl, hx, hb, hml, rfl, hown, hts, hK, hA, hlk⟩ := K
  intro H locs ls hP hD hS hl
  subst hs
  exact va_get hx hb hts hin hown hK hP q0 he hc k hk (hts _ hlink) (fun _ h => h) hv d (kk H locs ls hP hD hS hl)
theorem x_put (K : xk X l0 R0 D0 cl0 tys0 cc own Ts nL) {ref C : String} {T : u_T} {N ci index a : Nat} {fs : List Value} {v : Value} {ws' : va_W} (hin : ∀ w ∈ u_ws C T N, w ∈ Ts) (ty0 : Nat → FieldType) (hty : ∀ k, k < N → parseFieldDescriptor (T k).2.2.1 = some (ty0 k)) (hnm : ∀ a, a < N → ∀ b, b < N → a ≠ b → (T a).2.1 ≠ (T b).2.1) (q0 : Nat) (hc : cl0[ci]? = some (C, T, N)) (he : ws[q0]? = some (a, .inr (ci, fs))) (k : Nat) (hk : k < N) (hlink : Cond.fieldLink own index ref (T k).2.1 (T k).2.2.1 ∈ Ts) (hs : (T k).1 = ref) (hfin : (T k).2.2.2 = false) {ty : FieldType} (hd : parseFieldDescriptor (T k).2.2.1 = some ty) (hn : narrow ty v = v) (hfit : fits ty v = true) (hlen : k < fs.length) (hw : ws.set q0 (a, .inr (ci, fs.set k v)) = ws') (d : decode cc pc = .ok (.putfield index, 3)) (kk : xw X cells slots (pc + 3) lv st ws') : xw X cells slots pc lv (v :: .ref a :: st) ws := by
  obtain ⟨⟨p, l, e, R, s, m, args, below, meth, c⟩, ⟨D, cl, A, tys, nX, Q⟩⟩ := X
  obtain ⟨rfl, rfl, rfl, rfl, rfl, hx, hb, hml, rfl, hown, hts, hK, hA, hlk⟩ := K
  intro H locs ls hP hD hS hl
  subst hs
  subst hw
  exact va_put hx hb hts hin ty0 hty hnm hown hK hP hD hS q0 he hc k hk (hts _ hlink) (fun _ h => h) hfin hd hn hfit hlen d (fun H locs hP hD hS => kk H locs ls hP hD hS hl)
def xmax (x y : Int32) : Int32 := if x < y then y else x
theorem x_mmax (K : xk X l0 R0 D0 cl0 tys0 cc own Ts nL) {index : Nat} {x y : Int32} (hlink : Cond.methodLink own index Lib.Math.max.name ∈ Ts) (hstat : Cond.static Lib.Math.max.name ∈ Ts) (hini : Cond.initialized "java/lang/Math" ∈ Ts) (hcode : Cond.code Lib.Math.max.name Lib.Math.max.code 2 (some .int) ∈ Ts) (hR : 1 ≤ R0.frames ∧ (st.map fun v => v.category).sum + 13 ≤ R0.locals) (hf : cells ≤ R0.cells ∧ slots ≤ R0.slots) (d : decode cc pc = .ok (.invokestatic index, 3)) (kk : xw X cells slots (pc + 3) lv (.int (xmax x y) :: st) ws) : xw X cells slots pc lv (.int y :: .int x :: st) ws := by
  obtain ⟨⟨p, l, e, R, s, m, args, below, meth, c⟩, ⟨D, cl, A, tys, nX, Q⟩⟩ := X
  obtain ⟨rfl, rfl, rfl, rfl, rfl, hx, hb, hml, rfl, hown, hts, hK, hA, hlk⟩ := K
  intro H locs ls hP hD hS hl
  exact va_mmax hx hb (by rw [hml, hl.1]) hown (hts _ hlink) (hts _ hstat) (hts _ hini) (hts _ hcode) hR.1 hR.2 hf.1 hf.2 d (kk H locs ls hP hD hS hl)
theorem x_copyi (K : xk X l0 R0 D0 cl0 tys0 cc own Ts nL) {index : Nat} {a0 a n0 n1 : Nat} {c0 c1 : ClassId} {f g : Nat → Int32} {ws' : va_W} {sp dp n : Int32} (hlink : Cond.methodLink own index arraycopyName ∈ Ts) (hnat : Cond.native arraycopyName ∈ Ts) (hstat : Cond.static arraycopyName ∈ Ts) (hini : Cond.initialized "java/lang/System" ∈ Ts) (q0 q1 t0 : Nat) (ha0 : ws[q0]? = some (a0, .inl (c0, n0, .inl f))) (ha1 : ws[q1]? = some (a, .inl (c1, n1, .inl g))) (ht0 : tys0[t0]? = some (c0, .int)) (ht1 : tys0[t0]? = some (c1, .int)) (h1 : ¬ sp < 0) (h2 : ¬ dp < 0) (h3 : ¬ n < 0) (h4 : sp.toNatClampNeg + n.toNatClampNeg ≤ n0) (h5 : dp.toNatClampNeg + n.toNatClampNeg ≤ n1) (hR : 1 ≤ R0.frames ∧ (st.map fun v => v.category).sum + (nativeFrameWords "java/lang/System" "arraycopy" 5 + 11) ≤ R0.locals) (d : decode cc pc = .ok (.invokestatic index, 3)) (hw : ws.set q1 (a, .inl (c1, n1, .inl (va_cpy f g sp.toNatClampNeg dp.toNatClampNeg n.toNatClampNeg))) = ws') (kk : xw X cells slots (pc + 3) lv st ws') : xw X cells slots pc lv (.int n :: .int dp :: .ref a :: .int sp :: .ref a0 :: st) ws := by
  obtain ⟨⟨p, l, e, R, s, m, args, below, meth, c⟩, ⟨D, cl, A, tys, nX, Q⟩⟩ := X
  obtain ⟨rfl, rfl, rfl, rfl, rfl, hx, hb, hml, rfl, hown, hts, hK, hA, hlk⟩ := K
  intro H locs ls hP hD hS hl
  subst hw
  exact va_copyi hx hb (by rw [hml, hl.1]) hown (hts _ hlink) (hts _ hnat) (hts _ hstat) (hts _ hini) hK hP hD hS q0 q1 t0 t0 ha0 ha1 ht0 ht1 rfl h1 h2 h3 h4 h5 (fun i hi => rfl) hR.1 hR.2 d (fun H locs hP hD hS => kk H locs ls hP hD hS hl)
end XR
