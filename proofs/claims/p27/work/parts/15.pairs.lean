/-! the rows of an int[][]: countByPairs -/
theorem xin_lt {i : Int32} {n : Nat} (h : xin i n = true) : i.toNatClampNeg < n := by
  have h1 := xin_of h
  exact Nat.not_le.mp fun q => h1 (Or.inr q)
def upd2 (f : Nat → Nat → Int32) (d : Nat) (r : Nat → Int32) : Nat → Nat → Int32 := fun k => if k = d then r else f k
def wJ (cI cA : ClassId) (aJ : Nat) (rw : Nat → Nat) (f : Nat → Nat → Int32) : va_W := [(aJ, .inl (cA, 10, .inr (.inr (.inr (.inr (fun i => if i < 10 then some (rw i) else none)))))), (rw 0, .inl (cI, 10, .inl (f 0))), (rw 1, .inl (cI, 10, .inl (f 1))), (rw 2, .inl (cI, 10, .inl (f 2))), (rw 3, .inl (cI, 10, .inl (f 3))), (rw 4, .inl (cI, 10, .inl (f 4))), (rw 5, .inl (cI, 10, .inl (f 5))), (rw 6, .inl (cI, 10, .inl (f 6))), (rw 7, .inl (cI, 10, .inl (f 7))), (rw 8, .inl (cI, 10, .inl (f 8))), (rw 9, .inl (cI, 10, .inl (f 9)))]
theorem wJ_at {cI cA : ClassId} {aJ : Nat} {rw : Nat → Nat} {f : Nat → Nat → Int32} {d : Nat} (h : d < 10) : (wJ cI cA aJ rw f)[d + 1]? = some (rw d, .inl (cI, 10, .inl (f d))) := by
  match d, h with
  | 0, _ => rfl
  | 1, _ => rfl
  | 2, _ => rfl
  | 3, _ => rfl
  | 4, _ => rfl
  | 5, _ => rfl
  | 6, _ => rfl
  | 7, _ => rfl
  | 8, _ => rfl
  | 9, _ => rfl
  | d + 10, h => exact absurd h (by omega)
theorem wJ_set {cI cA : ClassId} {aJ : Nat} {rw : Nat → Nat} {f : Nat → Nat → Int32} {d : Nat} {r : Nat → Int32} (h : d < 10) : (wJ cI cA aJ rw f).set (d + 1) (rw d, .inl (cI, 10, .inl r)) = wJ cI cA aJ rw (upd2 f d r) := by
  match d, h with
  | 0, _ => rfl
  | 1, _ => rfl
  | 2, _ => rfl
  | 3, _ => rfl
  | 4, _ => rfl
  | 5, _ => rfl
  | 6, _ => rfl
  | 7, _ => rfl
  | 8, _ => rfl
  | 9, _ => rfl
  | d + 10, h => exact absurd h (by omega)
theorem wJ_k {cI cA : ClassId} {aJ : Nat} {rw : Nat → Nat} {f : Nat → Nat → Int32} {k : Nat} {q : Nat × va_E} (h : (wJ cI cA aJ rw f)[k]? = some q) : k = 0 ∨ ∃ d, k = d + 1 ∧ d < 10 := by
  rcases k with _ | k
  · exact Or.inl rfl
  · refine Or.inr ⟨k, rfl, ?_⟩
    have := (List.getElem?_eq_some_iff.mp h).1
    simp only [wJ, List.length_cons, List.length_nil] at this
    omega
theorem wJ_one {cI cA : ClassId} {aJ : Nat} {rw : Nat → Nat} {f : Nat → Nat → Int32} {d : Nat} (h : d < 10) : [d + 1].map (fun i => (wJ cI cA aJ rw f)[i]?) = [((rw d, .inl (cI, 10, .inl (f d))) : Nat × va_E)].map some := by
  simp only [List.map_cons, List.map_nil]
  rw [wJ_at h]
theorem wJ_two {cI cA : ClassId} {aJ : Nat} {rw : Nat → Nat} {f : Nat → Nat → Int32} {d e : Nat} (h : d < 10) (h2 : e < 10) : [d + 1, e + 1].map (fun i => (wJ cI cA aJ rw f)[i]?) = [((rw d, .inl (cI, 10, .inl (f d))) : Nat × va_E), (rw e, .inl (cI, 10, .inl (f e)))].map some := by
  simp only [List.map_cons, List.map_nil]
  rw [wJ_at h, wJ_at h2]
theorem xnd_one (d : Nat) : va_nd [d] = true := by simp [va_nd]
theorem xnd_two {d e : Nat} (h : d ≠ e) : va_nd [d + 1, e + 1] = true := by simp [va_nd]; omega
theorem xne_succ {u : Int32} (h : u.toNatClampNeg < 10) (h2 : (u + (1 : Int32)).toNatClampNeg < 10) (h3 : xin u 10 = true) : u.toNatClampNeg ≠ (u + (1 : Int32)).toNatClampNeg := by
  obtain ⟨j, hj, rfl⟩ := vp_in_of (xin_of h3) (by decide)
  rw [show (1 : Int32) = nI 1 from rfl, nI_add, nI_clamp (by omega), nI_clamp (by omega)]
  omega
abbrev xDs (ws : va_W) : Prop := ∀ (i j : Nat) (p q : Nat × va_E), ws[i]? = some p → ws[j]? = some q → p.1 = q.1 → i = j
theorem wJ_ro {cI cA : ClassId} {aJ : Nat} {rw : Nat → Nat} {f : Nat → Nat → Int32} {d : Nat} (h : d < 10) (hd : xDs (wJ cI cA aJ rw f)) : ∀ (k : Nat) (q : Nat × va_E), (wJ cI cA aJ rw f)[k]? = some q → (∃ k' : Nat, [((rw d, .inl (cI, 10, .inl (f d))) : Nat × va_E)][k']? = some q) ∨ ((wJ cI cA aJ rw f)[k]? = some q ∧ ∀ (k' : Nat) p, [((rw d, .inl (cI, 10, .inl (f d))) : Nat × va_E)][k']? = some p → p.1 ≠ q.1) := by
  intro k q hq
  by_cases e : k = d + 1
  · subst e
    rw [wJ_at h] at hq
    exact Or.inl ⟨0, hq⟩
  · refine Or.inr ⟨hq, fun k' p hp hpq => ?_⟩
    rcases k' with _ | k'
    · cases hp
      exact e (hd _ _ _ _ (wJ_at h) hq hpq).symm
    · simp at hp
theorem wJ_up2 {cI cA : ClassId} {aJ : Nat} {rw : Nat → Nat} {f : Nat → Nat → Int32} {d e : Nat} (h : d < 10) (h2 : e < 10) (hne : d ≠ e) (u : Nat → Int32) (hd : xDs (wJ cI cA aJ rw f)) : ∀ (k : Nat) (q : Nat × va_E), (wJ cI cA aJ rw (upd2 f e u))[k]? = some q → (∃ k' : Nat, [((rw d, .inl (cI, 10, .inl (f d))) : Nat × va_E), (rw e, .inl (cI, 10, .inl u))][k']? = some q) ∨ ((wJ cI cA aJ rw f)[k]? = some q ∧ ∀ (k' : Nat) p, [((rw d, .inl (cI, 10, .inl (f d))) : Nat × va_E), (rw e, .inl (cI, 10, .inl (f e)))][k']? = some p → p.1 ≠ q.1) := by
  intro k q hq
  have out : ∀ q2, (wJ cI cA aJ rw f)[k]? = some q2 → k ≠ d + 1 → k ≠ e + 1 → ∀ (k' : Nat) p, [((rw d, .inl (cI, 10, .inl (f d))) : Nat × va_E), (rw e, .inl (cI, 10, .inl (f e)))][k']? = some p → p.1 ≠ q2.1 := by
    intro q2 hq2 e1 e2 k' p hp hpq
    match k', hp with
    | 0, hp => cases hp; exact e1 (hd _ _ _ _ (wJ_at h) hq2 hpq).symm
    | 1, hp => cases hp; exact e2 (hd _ _ _ _ (wJ_at h2) hq2 hpq).symm
    | k' + 2, hp => simp at hp
  rcases wJ_k hq with rfl | ⟨j, rfl, hj⟩
  · have hq2 : (wJ cI cA aJ rw f)[0]? = some q := hq
    exact Or.inr ⟨hq2, out q hq2 (by omega) (by omega)⟩
  · rw [wJ_at hj] at hq
    by_cases e2 : j = e
    · subst e2
      rw [show upd2 f j u j = u from if_pos rfl] at hq
      exact Or.inl ⟨1, hq⟩
    · rw [show upd2 f e u j = f j from if_neg e2] at hq
      by_cases e1 : j = d
      · subst e1
        exact Or.inl ⟨0, hq⟩
      · have hq2 : (wJ cI cA aJ rw f)[j + 1]? = some q := by rw [wJ_at hj]; exact hq
        exact Or.inr ⟨hq2, out q hq2 (by omega) (by omega)⟩
theorem wJ_ad {cI cA : ClassId} {aJ : Nat} {rw : Nat → Nat} {f : Nat → Nat → Int32} {e : Nat} (u : Nat → Int32) : (wJ cI cA aJ rw (upd2 f e u)).map (fun q => q.1) = (wJ cI cA aJ rw f).map (fun q => q.1) := rfl
section XUC

theorem x_aaldR {X : xC} {l0 : Launch} {R0 : Room} {D0 : va_G} {cl0 : List vw_C} {tys0 : List (ClassId × FieldType)} {cc : ByteArray} {own : String} {Ts : List Cond} {nL cells slots pc : Nat} {lv : List (Nat × Value)} {st : List Value} {ws : va_W} (K : xk X l0 R0 D0 cl0 tys0 cc own Ts nL) {a n : Nat} {cA : ClassId} {rw : Nat → Nat} {i : Int32} {ty : FieldType} (q0 t0 : Nat) (ht : tys0[t0]? = some (cA, ty)) (hty : refKind ty = true) (ha : ws[q0]? = some (a, .inl (cA, n, .inr (.inr (.inr (.inr (fun i => if i < n then some (rw i) else none))))))) (hin : xin i n = true) (d : decode cc pc = .ok (.aaload, 1)) (kk : xw X cells slots (pc + 1) lv (.ref (rw i.toNatClampNeg) :: st) ws) : xw X cells slots pc lv (.int i :: .ref a :: st) ws := by
  refine x_aald K q0 t0 ht hty ha hin d ?_
  rw [show va_rf ((fun i => if i < n then some (rw i) else none) i.toNatClampNeg) = .ref (rw i.toNatClampNeg) by
    show va_rf (if i.toNatClampNeg < n then some (rw i.toNatClampNeg) else none) = _
    rw [if_pos (xin_lt hin)]
    rfl]
  exact kk
theorem x_ucallSi {X : xC} {cc : ByteArray} {own : String} {Ts : List Cond} {nL cells slots pc : Nat} {lv : List (Nat × Value)} {st : List Value} {ws : va_W} {l : Launch} {R : Room} {D : va_G} {cl : List vw_C} {tys : List (ClassId × FieldType)} (K : xk X l R D cl tys cc own Ts nL) {y : MethodName} {w w' : List Cond} {rm : Room} {bytes : ByteArray} {maxL n idx : Nat} {av st0 : List Value} {wc : va_W} {σ : Type} {wf : σ → va_W} {P : Int32 → σ → Prop} (hM : xMi l y w rm D cl tys wc av wf P) (hrc : rm.cells = 0) (hrs : rm.slots = 0) (hg : GoodIn Ts (va_wsS own idx y w)) (hw : w = Cond.code y bytes maxL (some .int) :: w') (hd : y.cls ≠ "java/lang/invoke/MethodHandle" ∧ y.cls ≠ "java/lang/invoke/VarHandle" ∧ (parseMethodDescriptor y.desc).map (fun d => d.parameters.length) = some n) (hroom : rm.frames + 1 ≤ R.frames ∧ 8 + (maxL + 11) + rm.locals ≤ R.locals) (hn : av.length = n) (hst : st0 = av.reverse ++ st) (hcat : (st.map fun v => v.category).sum ≤ 8)
    (isC : List Nat) (hC : isC.map (fun i => ws[i]?) = wc.map some) (hnC : va_nd isC = true) (ws' : σ → va_W) (hup : ∀ u, xDs ws → ∀ (k : Nat) (q : Nat × va_E), (ws' u)[k]? = some q → (∃ k' : Nat, (wf u)[k']? = some q) ∨ (ws[k]? = some q ∧ ∀ (k' : Nat) p, wc[k']? = some p → p.1 ≠ q.1)) (had : ∀ u, (ws' u).map (fun q => q.1) = ws.map (fun q => q.1)) (d : decode cc pc = .ok (.invokestatic idx, 3)) (hf : cells ≤ R.cells ∧ slots ≤ R.slots)
    (kk : ∀ (r : Int32) (u : σ), P r u → xw X cells slots (pc + 3) lv (.int r :: st) (ws' u)) : xw X cells slots pc lv st0 ws := by
  obtain ⟨⟨p, l, e, R, s, m, args, below, meth, c⟩, ⟨D, cl, A, tys, nX, Q⟩⟩ := X
  obtain ⟨rfl, rfl, rfl, rfl, rfl, hx, hb, hml, rfl, hown, hts, hK, hA, hlk⟩ := K
  intro H locs ls hP hD hS hl
  have hPc := hP.sub (ws' := wc) isC (xfm hC)
  have hDc := hD.sub (ws' := wc) isC hnC hC
  have hFc := va_free (wc := wc) hD hS hA isC hC
  refine va_calli (va_runS (As := av) (rest := st) ⟨hx, hb, hml, hown, hts⟩ (hM H.size) (va_cwS n hts hg hw hrc hrs hd hroom) ⟨xPre_blind, fun U hU hW => ⟨rfl, by rw [hU], by rw [hU]; exact hPc, va_K.moved hW.alike hK, hDc.weaken (fun _ _ _ _ => trivial)⟩⟩ rfl hn hl.1 hst (lv_room hcat) d hf) hS (fun q _ h => hFc q h) hFc (fun r u t H1 locs ht hvm hw hB hz1 hk1 hS => ?_)
  obtain ⟨hP1, hK1, hD1⟩ := hB
  rw [ht] at hP1
  have hP2 : va_P D cl (ws' u) H1 := fun k q hq => by
    rcases hup u hD.1 k q hq with ⟨k', h1⟩ | ⟨h1, h2⟩
    · exact hP1 k' q h1
    · have h3 : va_P D cl [q] H := fun k2 q2 hq2 => by
        rcases k2 with _ | k2
        · cases hq2; exact hP k _ h1
        · simp at hq2
      have h4 : va_P D cl [q] H1 := h3.kept (fun k2 q2 hq2 => by
        rcases k2 with _ | k2
        · cases hq2
          refine hk1 _ (vx_lt hP h1) ?_
          rintro (⟨k3, e3, h5⟩ | h5)
          · exact h2 k3 _ h5 rfl
          · exact absurd (vx_lt hP h1) (Nat.not_lt.mpr h5)
        · simp at hq2)
      exact h4 0 q rfl
  have key : ∀ (k : Nat) (q : Nat × va_E), (ws' u)[k]? = some q → ∃ q2, ws[k]? = some q2 ∧ q2.1 = q.1 := fun k q hq => by
    have h1 : ((ws' u).map (fun q => q.1))[k]? = some q.1 := by rw [List.getElem?_map, hq]; rfl
    rw [had u, List.getElem?_map] at h1
    cases h2 : ws[k]? with
    | none => rw [h2] at h1; cases h1
    | some q2 => rw [h2] at h1; exact ⟨q2, rfl, Option.some.inj h1⟩
  have hD2 : va_D A (ws' u) := ⟨fun i j a b ha hb hab => by
    obtain ⟨a2, ha2, e1⟩ := key i a ha
    obtain ⟨b2, hb2, e2⟩ := key j b hb
    exact hD.1 i j a2 b2 ha2 hb2 (by rw [e1, e2, hab]), fun k q hq => by
    obtain ⟨q2, h1, h2⟩ := key k q hq
    rw [← h2]
    exact hD.2 k q2 h1⟩
  exact kk r u hw H1 locs ls hP2 hD2 hS hl
theorem x_ucallSl {X : xC} {cc : ByteArray} {own : String} {Ts : List Cond} {nL cells slots pc : Nat} {lv : List (Nat × Value)} {st : List Value} {ws : va_W} {l : Launch} {R : Room} {D : va_G} {cl : List vw_C} {tys : List (ClassId × FieldType)} (K : xk X l R D cl tys cc own Ts nL) {y : MethodName} {w w' : List Cond} {rm : Room} {bytes : ByteArray} {maxL n idx : Nat} {av st0 : List Value} {wc : va_W} {σ : Type} {wf : σ → va_W} {P : Int64 → σ → Prop} (hM : xMl l y w rm D cl tys wc av wf P) (hrc : rm.cells = 0) (hrs : rm.slots = 0) (hg : GoodIn Ts (va_wsS own idx y w)) (hw : w = Cond.code y bytes maxL (some .long) :: w') (hd : y.cls ≠ "java/lang/invoke/MethodHandle" ∧ y.cls ≠ "java/lang/invoke/VarHandle" ∧ (parseMethodDescriptor y.desc).map (fun d => d.parameters.length) = some n) (hroom : rm.frames + 1 ≤ R.frames ∧ 8 + (maxL + 11) + rm.locals ≤ R.locals) (hn : av.length = n) (hst : st0 = av.reverse ++ st) (hcat : (st.map fun v => v.category).sum ≤ 8)
    (isC : List Nat) (hC : isC.map (fun i => ws[i]?) = wc.map some) (hnC : va_nd isC = true) (ws' : σ → va_W) (hup : ∀ u, xDs ws → ∀ (k : Nat) (q : Nat × va_E), (ws' u)[k]? = some q → (∃ k' : Nat, (wf u)[k']? = some q) ∨ (ws[k]? = some q ∧ ∀ (k' : Nat) p, wc[k']? = some p → p.1 ≠ q.1)) (had : ∀ u, (ws' u).map (fun q => q.1) = ws.map (fun q => q.1)) (d : decode cc pc = .ok (.invokestatic idx, 3)) (hf : cells ≤ R.cells ∧ slots ≤ R.slots)
    (kk : ∀ (r : Int64) (u : σ), P r u → xw X cells slots (pc + 3) lv (.long r :: st) (ws' u)) : xw X cells slots pc lv st0 ws := by
  obtain ⟨⟨p, l, e, R, s, m, args, below, meth, c⟩, ⟨D, cl, A, tys, nX, Q⟩⟩ := X
  obtain ⟨rfl, rfl, rfl, rfl, rfl, hx, hb, hml, rfl, hown, hts, hK, hA, hlk⟩ := K
  intro H locs ls hP hD hS hl
  have hPc := hP.sub (ws' := wc) isC (xfm hC)
  have hDc := hD.sub (ws' := wc) isC hnC hC
  have hFc := va_free (wc := wc) hD hS hA isC hC
  refine va_calll (va_runS (As := av) (rest := st) ⟨hx, hb, hml, hown, hts⟩ (hM H.size) (va_cwS n hts hg hw hrc hrs hd hroom) ⟨xPre_blind, fun U hU hW => ⟨rfl, by rw [hU], by rw [hU]; exact hPc, va_K.moved hW.alike hK, hDc.weaken (fun _ _ _ _ => trivial)⟩⟩ rfl hn hl.1 hst (lv_room hcat) d hf) hS (fun q _ h => hFc q h) hFc (fun r u t H1 locs ht hvm hw hB hz1 hk1 hS => ?_)
  obtain ⟨hP1, hK1, hD1⟩ := hB
  rw [ht] at hP1
  have hP2 : va_P D cl (ws' u) H1 := fun k q hq => by
    rcases hup u hD.1 k q hq with ⟨k', h1⟩ | ⟨h1, h2⟩
    · exact hP1 k' q h1
    · have h3 : va_P D cl [q] H := fun k2 q2 hq2 => by
        rcases k2 with _ | k2
        · cases hq2; exact hP k _ h1
        · simp at hq2
      have h4 : va_P D cl [q] H1 := h3.kept (fun k2 q2 hq2 => by
        rcases k2 with _ | k2
        · cases hq2
          refine hk1 _ (vx_lt hP h1) ?_
          rintro (⟨k3, e3, h5⟩ | h5)
          · exact h2 k3 _ h5 rfl
          · exact absurd (vx_lt hP h1) (Nat.not_lt.mpr h5)
        · simp at hq2)
      exact h4 0 q rfl
  have key : ∀ (k : Nat) (q : Nat × va_E), (ws' u)[k]? = some q → ∃ q2, ws[k]? = some q2 ∧ q2.1 = q.1 := fun k q hq => by
    have h1 : ((ws' u).map (fun q => q.1))[k]? = some q.1 := by rw [List.getElem?_map, hq]; rfl
    rw [had u, List.getElem?_map] at h1
    cases h2 : ws[k]? with
    | none => rw [h2] at h1; cases h1
    | some q2 => rw [h2] at h1; exact ⟨q2, rfl, Option.some.inj h1⟩
  have hD2 : va_D A (ws' u) := ⟨fun i j a b ha hb hab => by
    obtain ⟨a2, ha2, e1⟩ := key i a ha
    obtain ⟨b2, hb2, e2⟩ := key j b hb
    exact hD.1 i j a2 b2 ha2 hb2 (by rw [e1, e2, hab]), fun k q hq => by
    obtain ⟨q2, h1, h2⟩ := key k q hq
    rw [← h2]
    exact hD.2 k q2 h1⟩
  exact kk r u hw H1 locs ls hP2 hD2 hS hl
theorem x_ucallSv {X : xC} {cc : ByteArray} {own : String} {Ts : List Cond} {nL cells slots pc : Nat} {lv : List (Nat × Value)} {st : List Value} {ws : va_W} {l : Launch} {R : Room} {D : va_G} {cl : List vw_C} {tys : List (ClassId × FieldType)} (K : xk X l R D cl tys cc own Ts nL) {y : MethodName} {w w' : List Cond} {rm : Room} {bytes : ByteArray} {maxL n idx : Nat} {av st0 : List Value} {wc : va_W} {σ : Type} {wf : σ → va_W} {P : σ → Prop} (hM : xMv l y w rm D cl tys wc av wf P) (hrc : rm.cells = 0) (hrs : rm.slots = 0) (hg : GoodIn Ts (va_wsS own idx y w)) (hw : w = Cond.code y bytes maxL (none) :: w') (hd : y.cls ≠ "java/lang/invoke/MethodHandle" ∧ y.cls ≠ "java/lang/invoke/VarHandle" ∧ (parseMethodDescriptor y.desc).map (fun d => d.parameters.length) = some n) (hroom : rm.frames + 1 ≤ R.frames ∧ 8 + (maxL + 11) + rm.locals ≤ R.locals) (hn : av.length = n) (hst : st0 = av.reverse ++ st) (hcat : (st.map fun v => v.category).sum ≤ 8)
    (isC : List Nat) (hC : isC.map (fun i => ws[i]?) = wc.map some) (hnC : va_nd isC = true) (ws' : σ → va_W) (hup : ∀ u, xDs ws → ∀ (k : Nat) (q : Nat × va_E), (ws' u)[k]? = some q → (∃ k' : Nat, (wf u)[k']? = some q) ∨ (ws[k]? = some q ∧ ∀ (k' : Nat) p, wc[k']? = some p → p.1 ≠ q.1)) (had : ∀ u, (ws' u).map (fun q => q.1) = ws.map (fun q => q.1)) (d : decode cc pc = .ok (.invokestatic idx, 3)) (hf : cells ≤ R.cells ∧ slots ≤ R.slots)
    (kk : ∀ (u : σ), P u → xw X cells slots (pc + 3) lv st (ws' u)) : xw X cells slots pc lv st0 ws := by
  obtain ⟨⟨p, l, e, R, s, m, args, below, meth, c⟩, ⟨D, cl, A, tys, nX, Q⟩⟩ := X
  obtain ⟨rfl, rfl, rfl, rfl, rfl, hx, hb, hml, rfl, hown, hts, hK, hA, hlk⟩ := K
  intro H locs ls hP hD hS hl
  have hPc := hP.sub (ws' := wc) isC (xfm hC)
  have hDc := hD.sub (ws' := wc) isC hnC hC
  have hFc := va_free (wc := wc) hD hS hA isC hC
  refine va_callv (va_runS (As := av) (rest := st) ⟨hx, hb, hml, hown, hts⟩ (hM H.size) (va_cwS n hts hg hw hrc hrs hd hroom) ⟨xPre_blind, fun U hU hW => ⟨rfl, by rw [hU], by rw [hU]; exact hPc, va_K.moved hW.alike hK, hDc.weaken (fun _ _ _ _ => trivial)⟩⟩ rfl hn hl.1 hst (lv_room hcat) d hf) hS (fun q _ h => hFc q h) hFc (fun u t H1 locs ht hvm hw hB hz1 hk1 hS => ?_)
  obtain ⟨hP1, hK1, hD1⟩ := hB
  rw [ht] at hP1
  have hP2 : va_P D cl (ws' u) H1 := fun k q hq => by
    rcases hup u hD.1 k q hq with ⟨k', h1⟩ | ⟨h1, h2⟩
    · exact hP1 k' q h1
    · have h3 : va_P D cl [q] H := fun k2 q2 hq2 => by
        rcases k2 with _ | k2
        · cases hq2; exact hP k _ h1
        · simp at hq2
      have h4 : va_P D cl [q] H1 := h3.kept (fun k2 q2 hq2 => by
        rcases k2 with _ | k2
        · cases hq2
          refine hk1 _ (vx_lt hP h1) ?_
          rintro (⟨k3, e3, h5⟩ | h5)
          · exact h2 k3 _ h5 rfl
          · exact absurd (vx_lt hP h1) (Nat.not_lt.mpr h5)
        · simp at hq2)
      exact h4 0 q rfl
  have key : ∀ (k : Nat) (q : Nat × va_E), (ws' u)[k]? = some q → ∃ q2, ws[k]? = some q2 ∧ q2.1 = q.1 := fun k q hq => by
    have h1 : ((ws' u).map (fun q => q.1))[k]? = some q.1 := by rw [List.getElem?_map, hq]; rfl
    rw [had u, List.getElem?_map] at h1
    cases h2 : ws[k]? with
    | none => rw [h2] at h1; cases h1
    | some q2 => rw [h2] at h1; exact ⟨q2, rfl, Option.some.inj h1⟩
  have hD2 : va_D A (ws' u) := ⟨fun i j a b ha hb hab => by
    obtain ⟨a2, ha2, e1⟩ := key i a ha
    obtain ⟨b2, hb2, e2⟩ := key j b hb
    exact hD.1 i j a2 b2 ha2 hb2 (by rw [e1, e2, hab]), fun k q hq => by
    obtain ⟨q2, h1, h2⟩ := key k q hq
    rw [← h2]
    exact hD.2 k q2 h1⟩
  exact kk u hw H1 locs ls hP2 hD2 hS hl
end XUC
abbrev rm_X0_countByPairs (d : Nat) : Room := { frames := 12 + d, cells := 0, slots := 0, locals := 280 + 40 * d }
def q_X0_countByPairs_L25 (rec9 : Int32 → Int32 → Int32 → (Nat → Nat → Int32) → (Int64 → (Nat → Nat → Int32) → Prop) → Prop) (u1 : Int32) (u3 : Int32) (P0 : Int64 → Int64 → (Nat → Nat → Int32) → Prop) : Nat → Int32 → Int64 → Int64 → Int32 → (Nat → Nat → Int32) → Prop
  | 0, _, _, _, _, _ => False
  | n + 1, x5, x6, x8, x10, joined => (((55 : Int32) ≤ x10 → P0 x6 x8 joined) ∧ (¬ (55 : Int32) ≤ x10 → ((x5 = (0 : Int32) → P0 x6 x8 joined) ∧ (¬ x5 = (0 : Int32) → q_X0_oneToTintLast x5 (joined u1.toNatClampNeg) (fun (r1 : Int32) => ((r1 = (-1 : Int32) → q_X0_firstWithStranger x5 (joined u1.toNatClampNeg) (fun (r2 : Int32) => xin r2 10 = true ∧ q_X0_firstOf ((x5 &&& ((joined u1.toNatClampNeg r2.toNatClampNeg) ^^^ (-1 : Int32))) &&& (((1 : Int32) <<< (r2 &&& 31)) ^^^ (-1 : Int32))) (fun (r3 : Int32) => xj2 (fun (v5 : Int64) (v6 : Nat → Nat → Int32) => xin r2 10 = true ∧ xin r2 10 = true ∧ xin r3 10 = true ∧ xin r3 10 = true ∧ q_X0_countByPairs_L25 rec9 u1 u3 P0 n x5 v5 x8 (x10 + (1 : Int32)) (upd2 (upd2 v6 u1.toNatClampNeg (upd (v6 u1.toNatClampNeg) r2.toNatClampNeg ((v6 u1.toNatClampNeg r2.toNatClampNeg) ||| ((1 : Int32) <<< (r3 &&& 31))))) u1.toNatClampNeg (upd ((upd2 v6 u1.toNatClampNeg (upd (v6 u1.toNatClampNeg) r2.toNatClampNeg ((v6 u1.toNatClampNeg r2.toNatClampNeg) ||| ((1 : Int32) <<< (r3 &&& 31))))) u1.toNatClampNeg) r3.toNatClampNeg (((upd2 v6 u1.toNatClampNeg (upd (v6 u1.toNatClampNeg) r2.toNatClampNeg ((v6 u1.toNatClampNeg r2.toNatClampNeg) ||| ((1 : Int32) <<< (r3 &&& 31))))) u1.toNatClampNeg r3.toNatClampNeg) ||| ((1 : Int32) <<< (r2 &&& 31)))))) (fun (J4 : Int64 → (Nat → Nat → Int32) → Prop) => (((10 : Int32) ≤ (u1 + (1 : Int32)) → J4 x6 joined) ∧ (¬ (10 : Int32) ≤ (u1 + (1 : Int32)) → xin (u1 + (1 : Int32)) 10 = true ∧ q_X0_makeOne r2 r3 (joined u1.toNatClampNeg) (joined ((u1 + (1 : Int32)).toNatClampNeg)) (fun (row_7 : Nat → Int32) => rec9 (u1 + (1 : Int32)) (x5 &&& (((1 : Int32) <<< (r3 &&& 31)) ^^^ (-1 : Int32))) u3 (upd2 joined ((u1 + (1 : Int32)).toNatClampNeg) row_7) (fun (r9 : Int64) (joined_8 : Nat → Nat → Int32) => xl (x6 + (x8 * r9)) (fun y10 => J4 y10 joined_8))))))))) ∧ (¬ r1 = (-1 : Int32) → xin r1 10 = true ∧ q_J6_bitCount_0f7a4 ((joined u1.toNatClampNeg r1.toNatClampNeg) &&& x5) (fun (r11 : Int32) => xl (x8 * ((u3 - r11).toInt64)) (fun y12 => xl (x5 &&& (((1 : Int32) <<< (r1 &&& 31)) ^^^ (-1 : Int32))) (fun y13 => q_X0_countByPairs_L25 rec9 u1 u3 P0 n y13 x6 y12 (x10 + (1 : Int32)) joined))))))))))
def q_X0_countByPairs : Nat → Int32 → Int32 → Int32 → (Nat → Nat → Int32) → (Int64 → (Nat → Nat → Int32) → Prop) → Prop
  | 0, _, _, _, _, _ => False
  | d9 + 1, p1, p2, p3, joined, P => ((p1 < (10 : Int32) → xin p1 10 = true ∧ (∃ n14 : Nat, q_X0_countByPairs_L25 (q_X0_countByPairs d9) p1 p3 (fun (v15 : Int64) (v16 : Int64) (v17 : Nat → Nat → Int32) => P (v15 + v16) v17) n14 p2 (0 : Int64) (1 : Int64) (0 : Int32) joined)) ∧ (¬ p1 < (10 : Int32) → P (0 : Int64) joined))
set_option maxHeartbeats 4000000 in
set_option maxRecDepth 100000 in
theorem w_X0_countByPairs_L25 {X : xC} {l : Launch} {D : va_G} {cI cJ cZ cA : ClassId} {aJ : Nat} {rw : Nat → Nat} {d9 : Nat} (K : xk X l (rm_X0_countByPairs (d9 + 1)) D vwCl (xtys cI cJ cZ cA) cX0_countByPairs RX0 wsX0_countByPairs 14) (rec9 : Int32 → Int32 → Int32 → (Nat → Nat → Int32) → (Int64 → (Nat → Nat → Int32) → Prop) → Prop) (hrec : ∀ (aJ : Nat) (rw : Nat → Nat) (p1 : Int32) (p2 : Int32) (p3 : Int32) (joined : Nat → Nat → Int32) (P : Int64 → (Nat → Nat → Int32) → Prop), rec9 p1 p2 p3 joined P → xMl l yX0_countByPairs wsX0_countByPairs (rm_X0_countByPairs d9) D vwCl (xtys cI cJ cZ cA) (wJ cI cA aJ rw joined) [.ref aJ, .int p1, .int p2, .int p3] (σ := Nat → Nat → Int32) (fun u => (wJ cI cA aJ rw u)) (fun r u => P r u)) (u1 : Int32) (u3 : Int32) (hx1 : xin u1 10 = true) (P0 : Int64 → Int64 → (Nat → Nat → Int32) → Prop) : ∀ (n : Nat) (x5 : Int32) (x6 : Int64) (x8 : Int64) (x10 : Int32) (joined : Nat → Nat → Int32), q_X0_countByPairs_L25 rec9 u1 u3 P0 n x5 x6 x8 x10 joined → (∀ (z0 : Int64) (z1 : Int64) (z2 : Nat → Nat → Int32), P0 z0 z1 z2 → xw X 0 0 193 [(6, .long z0), (8, .long z1)] [] (wJ cI cA aJ rw z2)) → xw X 0 0 25 [(0, .ref aJ), (1, .int u1), (3, .int u3), (4, .ref (rw u1.toNatClampNeg)), (5, .int x5), (6, .long x6), (8, .long x8), (10, .int x10)] [] (wJ cI cA aJ rw joined) := by
  intro n
  have hd1 := xin_lt hx1
  induction n with
  | zero =>
    intro x5 x6 x8 x10 joined h
    rw [q_X0_countByPairs_L25] at h
    exact h.elim
  | succ n ih =>
    intro x5 x6 x8 x10 joined h k0
    rw [q_X0_countByPairs_L25] at h
    refine x_iload (pc := 25) K dX0_countByPairs_25 7 rfl ?_
    refine x_bipush (v := (55)) (pc := 27) K dX0_countByPairs_27 (by decide) ?_
    refine x_icmp_ge (pc := 29) K dX0_countByPairs_29 (tgt := 193) (by decide) (fun c9 => ?_) (fun c9 => ?_)
    · have h := h.1 c9
      refine x_keep [false, false, false, false, false, true, true, false] rfl ?_
      exact k0 x6 x8 joined h
    · have h := h.2 c9
      refine x_iload (pc := 32) K dX0_countByPairs_32 4 rfl ?_
      refine x_if_eq (pc := 34) K dX0_countByPairs_34 (tgt := 193) (by decide) (fun c9 => ?_) (fun c9 => ?_)
      · have h := h.1 c9
        refine x_keep [false, false, false, false, false, true, true, false] rfl ?_
        exact k0 x6 x8 joined h
      · have h := h.2 c9
        refine x_aload (pc := 37) K dX0_countByPairs_37 3 rfl ?_
        refine x_iload (pc := 39) K dX0_countByPairs_39 4 rfl ?_
        refine x_ucallSi (pc := 41) (n := 2) K (c_X0_oneToTintLast l D cI cJ cZ cA (rw u1.toNatClampNeg) x5 (joined u1.toNatClampNeg) _ h) rfl rfl gX0_countByPairs_X0_oneToTintLast rfl (by decide +kernel) ⟨by dsimp only [rm_X0_countByPairs]; omega, by dsimp only [rm_X0_countByPairs]; omega⟩ rfl (av := [.ref (rw u1.toNatClampNeg), .int x5]) rfl (Nat.le_of_ble_eq_true rfl) [u1.toNatClampNeg + 1] (wJ_one hd1) (xnd_one _) (fun _ => wJ cI cA aJ rw joined) (fun u hds => wJ_ro hd1 hds) (fun u => rfl) dX0_countByPairs_41 ⟨Nat.le_of_ble_eq_true rfl, Nat.le_of_ble_eq_true rfl⟩ (fun r1 _ h => ?_)
        refine x_istore (lv' := [(0, .ref aJ), (1, .int u1), (3, .int u3), (4, .ref (rw u1.toNatClampNeg)), (5, .int x5), (6, .long x6), (8, .long x8), (10, .int x10), (11, .int r1)]) (pc := 44) K dX0_countByPairs_44 (by decide) rfl ?_
        refine x_iload (pc := 46) K dX0_countByPairs_46 8 rfl ?_
        refine x_iconst (v := (-1)) (pc := 48) K dX0_countByPairs_48 (by decide) ?_
        refine x_icmp_eq (pc := 49) K dX0_countByPairs_49 (tgt := 85) (by decide) (fun c9 => ?_) (fun c9 => ?_)
        · have h := h.1 c9
          refine x_keep [true, true, true, true, true, true, true, true, false] rfl ?_
          refine x_aload (pc := 85) K dX0_countByPairs_85 3 rfl ?_
          refine x_iload (pc := 87) K dX0_countByPairs_87 4 rfl ?_
          refine x_ucallSi (pc := 89) (n := 2) K (c_X0_firstWithStranger l D cI cJ cZ cA (rw u1.toNatClampNeg) x5 (joined u1.toNatClampNeg) _ h) rfl rfl gX0_countByPairs_X0_firstWithStranger rfl (by decide +kernel) ⟨by dsimp only [rm_X0_countByPairs]; omega, by dsimp only [rm_X0_countByPairs]; omega⟩ rfl (av := [.ref (rw u1.toNatClampNeg), .int x5]) rfl (Nat.le_of_ble_eq_true rfl) [u1.toNatClampNeg + 1] (wJ_one hd1) (xnd_one _) (fun _ => wJ cI cA aJ rw joined) (fun u hds => wJ_ro hd1 hds) (fun u => rfl) dX0_countByPairs_89 ⟨Nat.le_of_ble_eq_true rfl, Nat.le_of_ble_eq_true rfl⟩ (fun r2 _ h => ?_)
          refine x_istore (lv' := [(0, .ref aJ), (1, .int u1), (3, .int u3), (4, .ref (rw u1.toNatClampNeg)), (5, .int x5), (6, .long x6), (8, .long x8), (10, .int x10), (12, .int r2)]) (pc := 92) K dX0_countByPairs_92 (by decide) rfl ?_
          refine x_iload (pc := 94) K dX0_countByPairs_94 4 rfl ?_
          refine x_aload (pc := 96) K dX0_countByPairs_96 3 rfl ?_
          refine x_iload (pc := 98) K dX0_countByPairs_98 8 rfl ?_
          have g9 := h.1
          replace h := h.2
          refine x_iald (pc := 100) K (u1.toNatClampNeg + 1) 0 rfl (wJ_at hd1) g9 dX0_countByPairs_100 ?_
          clear g9
          refine x_iconst (v := (-1)) (pc := 101) K dX0_countByPairs_101 (by decide) ?_
          refine x_ixor (pc := 102) K dX0_countByPairs_102 ?_
          refine x_iand (pc := 103) K dX0_countByPairs_103 ?_
          refine x_iconst (v := (1)) (pc := 104) K dX0_countByPairs_104 (by decide) ?_
          refine x_iload (pc := 105) K dX0_countByPairs_105 8 rfl ?_
          refine x_ishl (pc := 107) K dX0_countByPairs_107 ?_
          refine x_iconst (v := (-1)) (pc := 108) K dX0_countByPairs_108 (by decide) ?_
          refine x_ixor (pc := 109) K dX0_countByPairs_109 ?_
          refine x_iand (pc := 110) K dX0_countByPairs_110 ?_
          refine x_pcallSi (pc := 111) (n := 1) K (c_X0_firstOf l D cI cJ cZ cA ((x5 &&& ((joined u1.toNatClampNeg r2.toNatClampNeg) ^^^ (-1 : Int32))) &&& (((1 : Int32) <<< (r2 &&& 31)) ^^^ (-1 : Int32))) _ h) rfl rfl gX0_countByPairs_X0_firstOf rfl (by decide +kernel) ⟨by dsimp only [rm_X0_countByPairs]; omega, by dsimp only [rm_X0_countByPairs]; omega⟩ rfl (av := [.int ((x5 &&& ((joined u1.toNatClampNeg r2.toNatClampNeg) ^^^ (-1 : Int32))) &&& (((1 : Int32) <<< (r2 &&& 31)) ^^^ (-1 : Int32)))]) rfl (Nat.le_of_ble_eq_true rfl) dX0_countByPairs_111 ⟨Nat.le_of_ble_eq_true rfl, Nat.le_of_ble_eq_true rfl⟩ (fun r3 u9 h => ?_)
          refine x_istore (lv' := [(0, .ref aJ), (1, .int u1), (3, .int u3), (4, .ref (rw u1.toNatClampNeg)), (5, .int x5), (6, .long x6), (8, .long x8), (10, .int x10), (12, .int r2), (13, .int r3)]) (pc := 114) K dX0_countByPairs_114 (by decide) rfl ?_
          refine x_iload_n (pc := 116) K dX0_countByPairs_116 1 rfl rfl ?_
          refine x_iconst (v := (1)) (pc := 117) K dX0_countByPairs_117 (by decide) ?_
          refine x_iadd (pc := 118) K dX0_countByPairs_118 ?_
          refine x_bipush (v := (10)) (pc := 119) K dX0_countByPairs_119 (by decide) ?_
          obtain ⟨J4, hJ4, h⟩ := xj2_o h
          have kJ4 : ∀ (v5 : Int64) (v6 : Nat → Nat → Int32), J4 v5 v6 → xw X 0 0 163 [(0, .ref aJ), (1, .int u1), (3, .int u3), (4, .ref (rw u1.toNatClampNeg)), (5, .int x5), (6, .long v5), (8, .long x8), (10, .int x10), (12, .int r2), (13, .int r3)] [] (wJ cI cA aJ rw v6) := by
            intro v5 v6 hj
            have h := hJ4 v5 v6 hj
            refine x_aload (pc := 163) K dX0_countByPairs_163 3 rfl ?_
            refine x_iload (pc := 165) K dX0_countByPairs_165 8 rfl ?_
            refine x_dup2 (pc := 167) K dX0_countByPairs_167 rfl rfl ?_
            have g9 := h.1
            replace h := h.2
            refine x_iald (pc := 168) K (u1.toNatClampNeg + 1) 0 rfl (wJ_at hd1) g9 dX0_countByPairs_168 ?_
            clear g9
            refine x_iconst (v := (1)) (pc := 169) K dX0_countByPairs_169 (by decide) ?_
            refine x_iload (pc := 170) K dX0_countByPairs_170 9 rfl ?_
            refine x_ishl (pc := 172) K dX0_countByPairs_172 ?_
            refine x_ior (pc := 173) K dX0_countByPairs_173 ?_
            have g9 := h.1
            replace h := h.2
            refine x_iast (ws' := (wJ cI cA aJ rw (upd2 v6 u1.toNatClampNeg (upd (v6 u1.toNatClampNeg) r2.toNatClampNeg ((v6 u1.toNatClampNeg r2.toNatClampNeg) ||| ((1 : Int32) <<< (r3 &&& 31))))))) (pc := 174) K (u1.toNatClampNeg + 1) 0 rfl (wJ_at hd1) (wJ_set hd1) g9 dX0_countByPairs_174 ?_
            clear g9
            refine x_aload (pc := 175) K dX0_countByPairs_175 3 rfl ?_
            refine x_iload (pc := 177) K dX0_countByPairs_177 9 rfl ?_
            refine x_dup2 (pc := 179) K dX0_countByPairs_179 rfl rfl ?_
            have g9 := h.1
            replace h := h.2
            refine x_iald (pc := 180) K (u1.toNatClampNeg + 1) 0 rfl (wJ_at hd1) g9 dX0_countByPairs_180 ?_
            clear g9
            refine x_iconst (v := (1)) (pc := 181) K dX0_countByPairs_181 (by decide) ?_
            refine x_iload (pc := 182) K dX0_countByPairs_182 8 rfl ?_
            refine x_ishl (pc := 184) K dX0_countByPairs_184 ?_
            refine x_ior (pc := 185) K dX0_countByPairs_185 ?_
            have g9 := h.1
            replace h := h.2
            refine x_iast (ws' := (wJ cI cA aJ rw (upd2 (upd2 v6 u1.toNatClampNeg (upd (v6 u1.toNatClampNeg) r2.toNatClampNeg ((v6 u1.toNatClampNeg r2.toNatClampNeg) ||| ((1 : Int32) <<< (r3 &&& 31))))) u1.toNatClampNeg (upd ((upd2 v6 u1.toNatClampNeg (upd (v6 u1.toNatClampNeg) r2.toNatClampNeg ((v6 u1.toNatClampNeg r2.toNatClampNeg) ||| ((1 : Int32) <<< (r3 &&& 31))))) u1.toNatClampNeg) r3.toNatClampNeg (((upd2 v6 u1.toNatClampNeg (upd (v6 u1.toNatClampNeg) r2.toNatClampNeg ((v6 u1.toNatClampNeg r2.toNatClampNeg) ||| ((1 : Int32) <<< (r3 &&& 31))))) u1.toNatClampNeg r3.toNatClampNeg) ||| ((1 : Int32) <<< (r2 &&& 31))))))) (pc := 186) K (u1.toNatClampNeg + 1) 0 rfl (wJ_at hd1) (wJ_set hd1) g9 dX0_countByPairs_186 ?_
            clear g9
            refine x_keep [true, true, true, true, true, true, true, true, false, false] rfl ?_
            refine x_iinc (v := x10 + (1 : Int32)) (lv' := [(0, .ref aJ), (1, .int u1), (3, .int u3), (4, .ref (rw u1.toNatClampNeg)), (5, .int x5), (6, .long v5), (8, .long x8), (10, .int (x10 + (1 : Int32)))]) (pc := 187) K dX0_countByPairs_187 (k := 7) rfl rfl (by decide) rfl ?_
            refine x_goto (pc := 190) K dX0_countByPairs_190 (tgt := 25) (by decide) ?_
            exact ih x5 v5 x8 (x10 + (1 : Int32)) (upd2 (upd2 v6 u1.toNatClampNeg (upd (v6 u1.toNatClampNeg) r2.toNatClampNeg ((v6 u1.toNatClampNeg r2.toNatClampNeg) ||| ((1 : Int32) <<< (r3 &&& 31))))) u1.toNatClampNeg (upd ((upd2 v6 u1.toNatClampNeg (upd (v6 u1.toNatClampNeg) r2.toNatClampNeg ((v6 u1.toNatClampNeg r2.toNatClampNeg) ||| ((1 : Int32) <<< (r3 &&& 31))))) u1.toNatClampNeg) r3.toNatClampNeg (((upd2 v6 u1.toNatClampNeg (upd (v6 u1.toNatClampNeg) r2.toNatClampNeg ((v6 u1.toNatClampNeg r2.toNatClampNeg) ||| ((1 : Int32) <<< (r3 &&& 31))))) u1.toNatClampNeg r3.toNatClampNeg) ||| ((1 : Int32) <<< (r2 &&& 31))))) h k0
          refine x_icmp_ge (pc := 121) K dX0_countByPairs_121 (tgt := 163) (by decide) (fun c9 => ?_) (fun c9 => ?_)
          · have h := h.1 c9
            exact kJ4 x6 joined h
          · have h := h.2 c9
            refine x_aload (pc := 124) K dX0_countByPairs_124 3 rfl ?_
            refine x_aload_n (pc := 126) K dX0_countByPairs_126 0 rfl rfl ?_
            refine x_iload_n (pc := 127) K dX0_countByPairs_127 1 rfl rfl ?_
            refine x_iconst (v := (1)) (pc := 128) K dX0_countByPairs_128 (by decide) ?_
            refine x_iadd (pc := 129) K dX0_countByPairs_129 ?_
            have g9 := h.1
            replace h := h.2
            have hd2 : (u1 + (1 : Int32)).toNatClampNeg < 10 := xin_lt g9
            refine x_aaldR (pc := 130) K 0 3 rfl rfl rfl g9 dX0_countByPairs_130 ?_
            clear g9
            refine x_iload (pc := 131) K dX0_countByPairs_131 8 rfl ?_
            refine x_iload (pc := 133) K dX0_countByPairs_133 9 rfl ?_
            have hne : u1.toNatClampNeg ≠ ((u1 + (1 : Int32)).toNatClampNeg) := xne_succ hd1 hd2 hx1
            refine x_ucallSv (pc := 135) (n := 4) K (c_X0_makeOne l D cI cJ cZ cA (rw u1.toNatClampNeg) (rw ((u1 + (1 : Int32)).toNatClampNeg)) r2 r3 (joined u1.toNatClampNeg) (joined ((u1 + (1 : Int32)).toNatClampNeg)) _ h) rfl rfl gX0_countByPairs_X0_makeOne rfl (by decide +kernel) ⟨by dsimp only [rm_X0_countByPairs]; omega, by dsimp only [rm_X0_countByPairs]; omega⟩ rfl (av := [.ref (rw u1.toNatClampNeg), .ref (rw (u1 + (1 : Int32)).toNatClampNeg), .int r2, .int r3]) rfl (Nat.le_of_ble_eq_true rfl) [u1.toNatClampNeg + 1, ((u1 + (1 : Int32)).toNatClampNeg) + 1] (wJ_two hd1 hd2) (xnd_two hne) (fun u => wJ cI cA aJ rw (upd2 joined ((u1 + (1 : Int32)).toNatClampNeg) u)) (fun u hds => wJ_up2 hd1 hd2 hne u hds) (fun u => wJ_ad u) dX0_countByPairs_135 ⟨Nat.le_of_ble_eq_true rfl, Nat.le_of_ble_eq_true rfl⟩ (fun row_7 h => ?_)
            refine x_lload (pc := 138) K dX0_countByPairs_138 5 rfl ?_
            refine x_lload (pc := 140) K dX0_countByPairs_140 6 rfl ?_
            refine x_aload_n (pc := 142) K dX0_countByPairs_142 0 rfl rfl ?_
            refine x_iload_n (pc := 143) K dX0_countByPairs_143 1 rfl rfl ?_
            refine x_iconst (v := (1)) (pc := 144) K dX0_countByPairs_144 (by decide) ?_
            refine x_iadd (pc := 145) K dX0_countByPairs_145 ?_
            refine x_iload (pc := 146) K dX0_countByPairs_146 4 rfl ?_
            refine x_iconst (v := (1)) (pc := 148) K dX0_countByPairs_148 (by decide) ?_
            refine x_iload (pc := 149) K dX0_countByPairs_149 9 rfl ?_
            refine x_ishl (pc := 151) K dX0_countByPairs_151 ?_
            refine x_iconst (v := (-1)) (pc := 152) K dX0_countByPairs_152 (by decide) ?_
            refine x_ixor (pc := 153) K dX0_countByPairs_153 ?_
            refine x_iand (pc := 154) K dX0_countByPairs_154 ?_
            refine x_iload_n (pc := 155) K dX0_countByPairs_155 2 rfl rfl ?_
            refine x_callSl (pc := 156) (n := 4) K (hrec aJ rw (u1 + (1 : Int32)) (x5 &&& (((1 : Int32) <<< (r3 &&& 31)) ^^^ (-1 : Int32))) u3 (upd2 joined ((u1 + (1 : Int32)).toNatClampNeg) row_7) _ h) rfl rfl gX0_countByPairs_X0_countByPairs rfl (by decide +kernel) ⟨by dsimp only [rm_X0_countByPairs]; omega, by dsimp only [rm_X0_countByPairs]; omega⟩ rfl (av := [.ref aJ, .int (u1 + (1 : Int32)), .int (x5 &&& (((1 : Int32) <<< (r3 &&& 31)) ^^^ (-1 : Int32))), .int u3]) rfl (Nat.le_of_ble_eq_true rfl) [0, 1, 2, 3, 4, 5, 6, 7, 8, 9, 10] [] (wr := []) rfl rfl rfl rfl (by decide) dX0_countByPairs_156 ⟨Nat.le_of_ble_eq_true rfl, Nat.le_of_ble_eq_true rfl⟩ (fun r9 joined_8 h => ?_)
            refine x_ws (ws' := (wJ cI cA aJ rw joined_8)) rfl ?_
            refine x_lmul (pc := 159) K dX0_countByPairs_159 ?_
            refine x_ladd (pc := 160) K dX0_countByPairs_160 ?_
            obtain ⟨y10, ey10, h⟩ := xl_o h
            refine x_topl ey10 ?_
            clear ey10
            refine x_lstore (lv' := [(0, .ref aJ), (1, .int u1), (3, .int u3), (4, .ref (rw u1.toNatClampNeg)), (5, .int x5), (6, .long y10), (8, .long x8), (10, .int x10), (12, .int r2), (13, .int r3)]) (pc := 161) K dX0_countByPairs_161 (by decide) rfl ?_
            exact kJ4 y10 joined_8 h
        · have h := h.2 c9
          refine x_lload (pc := 52) K dX0_countByPairs_52 6 rfl ?_
          refine x_iload_n (pc := 54) K dX0_countByPairs_54 2 rfl rfl ?_
          refine x_aload (pc := 55) K dX0_countByPairs_55 3 rfl ?_
          refine x_iload (pc := 57) K dX0_countByPairs_57 8 rfl ?_
          have g9 := h.1
          replace h := h.2
          refine x_iald (pc := 59) K (u1.toNatClampNeg + 1) 0 rfl (wJ_at hd1) g9 dX0_countByPairs_59 ?_
          clear g9
          refine x_iload (pc := 60) K dX0_countByPairs_60 4 rfl ?_
          refine x_iand (pc := 62) K dX0_countByPairs_62 ?_
          refine x_pcallSi (pc := 63) (n := 1) K (c_J6_bitCount_0f7a4 l D cI cJ cZ cA ((joined u1.toNatClampNeg r1.toNatClampNeg) &&& x5) _ h) rfl rfl gX0_countByPairs_J6_bitCount_0f7a4 rfl (by decide +kernel) ⟨by dsimp only [rm_X0_countByPairs]; omega, by dsimp only [rm_X0_countByPairs]; omega⟩ rfl (av := [.int ((joined u1.toNatClampNeg r1.toNatClampNeg) &&& x5)]) rfl (Nat.le_of_ble_eq_true rfl) dX0_countByPairs_63 ⟨Nat.le_of_ble_eq_true rfl, Nat.le_of_ble_eq_true rfl⟩ (fun r11 u9 h => ?_)
          refine x_isub (pc := 66) K dX0_countByPairs_66 ?_
          refine x_i2l (pc := 67) K dX0_countByPairs_67 ?_
          refine x_lmul (pc := 68) K dX0_countByPairs_68 ?_
          obtain ⟨y12, ey12, h⟩ := xl_o h
          refine x_topl ey12 ?_
          clear ey12
          refine x_lstore (lv' := [(0, .ref aJ), (1, .int u1), (3, .int u3), (4, .ref (rw u1.toNatClampNeg)), (5, .int x5), (6, .long x6), (8, .long y12), (10, .int x10), (11, .int r1)]) (pc := 69) K dX0_countByPairs_69 (by decide) rfl ?_
          refine x_iload (pc := 71) K dX0_countByPairs_71 4 rfl ?_
          refine x_iconst (v := (1)) (pc := 73) K dX0_countByPairs_73 (by decide) ?_
          refine x_iload (pc := 74) K dX0_countByPairs_74 8 rfl ?_
          refine x_ishl (pc := 76) K dX0_countByPairs_76 ?_
          refine x_iconst (v := (-1)) (pc := 77) K dX0_countByPairs_77 (by decide) ?_
          refine x_ixor (pc := 78) K dX0_countByPairs_78 ?_
          refine x_iand (pc := 79) K dX0_countByPairs_79 ?_
          obtain ⟨y13, ey13, h⟩ := xl_o h
          refine x_topi ey13 ?_
          clear ey13
          refine x_istore (lv' := [(0, .ref aJ), (1, .int u1), (3, .int u3), (4, .ref (rw u1.toNatClampNeg)), (5, .int y13), (6, .long x6), (8, .long y12), (10, .int x10), (11, .int r1)]) (pc := 80) K dX0_countByPairs_80 (by decide) rfl ?_
          refine x_goto (pc := 82) K dX0_countByPairs_82 (tgt := 187) (by decide) ?_
          refine x_keep [true, true, true, true, true, true, true, true, false] rfl ?_
          refine x_iinc (v := x10 + (1 : Int32)) (lv' := [(0, .ref aJ), (1, .int u1), (3, .int u3), (4, .ref (rw u1.toNatClampNeg)), (5, .int y13), (6, .long x6), (8, .long y12), (10, .int (x10 + (1 : Int32)))]) (pc := 187) K dX0_countByPairs_187 (k := 7) rfl rfl (by decide) rfl ?_
          refine x_goto (pc := 190) K dX0_countByPairs_190 (tgt := 25) (by decide) ?_
          exact ih y13 x6 y12 (x10 + (1 : Int32)) joined h k0
set_option maxHeartbeats 4000000 in
set_option maxRecDepth 100000 in
theorem c_X0_countByPairs (l : Launch) (D : va_G) (cI cJ cZ cA : ClassId) (d9 : Nat) : ∀ (aJ : Nat) (rw : Nat → Nat) (p1 : Int32) (p2 : Int32) (p3 : Int32) (joined : Nat → Nat → Int32) (P : Int64 → (Nat → Nat → Int32) → Prop), q_X0_countByPairs d9 p1 p2 p3 joined P → xMl l yX0_countByPairs wsX0_countByPairs (rm_X0_countByPairs d9) D vwCl (xtys cI cJ cZ cA) (wJ cI cA aJ rw joined) [.ref aJ, .int p1, .int p2, .int p3] (σ := Nat → Nat → Int32) (fun u => (wJ cI cA aJ rw u)) (fun r u => P r u) := by
  induction d9 with
  | zero =>
    intro aJ rw p1 p2 p3 joined P h
    rw [q_X0_countByPairs] at h
    exact h.elim
  | succ d9 hrec =>
    intro aJ rw p1 p2 p3 joined P h
    rw [q_X0_countByPairs] at h
    refine xMl_of (cc := cX0_countByPairs) (maxL := 14) (by decide) rfl (Nat.le_of_ble_eq_true rfl) ?_
    intro X K hE
    have K : xk X l (rm_X0_countByPairs (d9 + 1)) D vwCl (xtys cI cJ cZ cA) cX0_countByPairs RX0 wsX0_countByPairs 14 := K
    refine x_iload_n (pc := 0) K dX0_countByPairs_0 1 rfl rfl ?_
    refine x_bipush (v := (10)) (pc := 1) K dX0_countByPairs_1 (by decide) ?_
    refine x_icmp_lt (pc := 3) K dX0_countByPairs_3 (tgt := 8) (by decide) (fun c9 => ?_) (fun c9 => ?_)
    · have h := h.1 c9
      refine x_aload_n (pc := 8) K dX0_countByPairs_8 0 rfl rfl ?_
      refine x_iload_n (pc := 9) K dX0_countByPairs_9 1 rfl rfl ?_
      have g9 := h.1
      replace h := h.2
      have hx1 := g9
      have hd1 : p1.toNatClampNeg < 10 := xin_lt g9
      refine x_aaldR (pc := 10) K 0 3 rfl rfl rfl g9 dX0_countByPairs_10 ?_
      clear g9
      refine x_astore (lv' := [(0, .ref aJ), (1, .int p1), (2, .int p2), (3, .int p3), (4, .ref (rw p1.toNatClampNeg))]) (pc := 11) K dX0_countByPairs_11 (by decide) rfl ?_
      refine x_iload_n (pc := 13) K dX0_countByPairs_13 2 rfl rfl ?_
      refine x_istore (lv' := [(0, .ref aJ), (1, .int p1), (2, .int p2), (3, .int p3), (4, .ref (rw p1.toNatClampNeg)), (5, .int p2)]) (pc := 14) K dX0_countByPairs_14 (by decide) rfl ?_
      refine x_lconst (v := (0)) (pc := 16) K dX0_countByPairs_16 (by decide) ?_
      refine x_lstore (lv' := [(0, .ref aJ), (1, .int p1), (2, .int p2), (3, .int p3), (4, .ref (rw p1.toNatClampNeg)), (5, .int p2), (6, .long (0 : Int64))]) (pc := 17) K dX0_countByPairs_17 (by decide) rfl ?_
      refine x_lconst (v := (1)) (pc := 19) K dX0_countByPairs_19 (by decide) ?_
      refine x_lstore (lv' := [(0, .ref aJ), (1, .int p1), (2, .int p2), (3, .int p3), (4, .ref (rw p1.toNatClampNeg)), (5, .int p2), (6, .long (0 : Int64)), (8, .long (1 : Int64))]) (pc := 20) K dX0_countByPairs_20 (by decide) rfl ?_
      refine x_iconst (v := (0)) (pc := 22) K dX0_countByPairs_22 (by decide) ?_
      refine x_istore (lv' := [(0, .ref aJ), (1, .int p1), (2, .int p2), (3, .int p3), (4, .ref (rw p1.toNatClampNeg)), (5, .int p2), (6, .long (0 : Int64)), (8, .long (1 : Int64)), (10, .int (0 : Int32))]) (pc := 23) K dX0_countByPairs_23 (by decide) rfl ?_
      refine x_keep [true, true, false, true, true, true, true, true, true] rfl ?_
      obtain ⟨n14, h⟩ := h
      refine w_X0_countByPairs_L25 K (q_X0_countByPairs d9) hrec p1 p3 hx1 _ n14 p2 (0 : Int64) (1 : Int64) (0 : Int32) joined h (fun v15 v16 v17 h => ?_)
      refine x_lload (pc := 193) K dX0_countByPairs_193 0 rfl ?_
      refine x_lload (pc := 195) K dX0_countByPairs_195 1 rfl ?_
      refine x_ladd (pc := 197) K dX0_countByPairs_197 ?_
      exact hE (v15 + v16) v17 _ _ h dX0_countByPairs_198
    · have h := h.2 c9
      refine x_keep [false, false, false, false] rfl ?_
      refine x_lconst (v := (0)) (pc := 6) K dX0_countByPairs_6 (by decide) ?_
      exact hE (0 : Int64) joined _ _ h dX0_countByPairs_7
