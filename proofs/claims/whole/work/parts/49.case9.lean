/-! the pure side: border, the case -/
def bval (c : Nat → Nat) (k j : Nat) : Nat := if k = j then 0 else bo (ld_S c k) (ld_S c j) + bo (ld_S c j) (ld_S c k)
theorem X0_border_a {c : Nat → Nat} {land : Nat → Int64} (hl : ∀ k, k < 10 → land k = lN (ld_S c k)) {p q : Int32} {P : Int32 → Prop} {T : String → Prop} (hT : badC p ∨ badC q → T "java/lang/IndexOutOfBoundsException") (hP : ∀ k j, k < 10 → j < 10 → p = nI k → q = nI j → P (nI (bval c k j))) : q_X0_border p q land P T := by
  unfold q_X0_border
  rcases allC p with hp | ⟨k, hk, rfl⟩
  · exact chkC_bad hp (hT (Or.inl hp))
  refine chkC_ok hk ?_
  rcases allC q with hq | ⟨j, hj, rfl⟩
  · exact chkC_bad hq (hT (Or.inr hq))
  have h := hP k j hk hj rfl rfl
  unfold bval at h
  refine chkC_ok hj ⟨fun e => ⟨xin_nI hk (by decide), xl_i ⟨xin_nI hj (by decide), xl_i ?_⟩⟩, fun e => ?_⟩
  · rw [if_neg (fun z => e (by rw [z]))] at h
    rw [nI_clamp (n := k) (by omega), nI_clamp (n := j) (by omega), hl k hk, hl j hj]
    refine X0_border_end (Q := fun r4 r6 r8 r10 => P (((r4 + r6) + r8) + r10)) (ld_lt c k) (ld_lt c j) ?_
    show P _
    rw [bo_sum]
    exact h
  · rw [if_pos ((nI_eq (by omega) (by omega)).mp e)] at h
    exact h
theorem X1_border_bad {c : Nat → Nat} {mcel : Nat → Int32} (hc : ∀ i, i < 36 → mcel i = cv (c i)) (hb : ∀ i, i < 36 → c i ≤ 10) {p q : Int32} {cells : Nat → Int64} {near : Nat → Int32} {P : Int32 → (Nat → Int64) → (Nat → Int32) → Int32 → Int32 → Prop} (h : badC p ∨ badC q) (hP : ∀ cells near th, P 0 cells near th 1) : q_X1_border p q mcel cells near P := by
  unfold q_X1_border
  refine looks_spec hc hb (fun cells' near' h1 h2 => ?_)
  rcases allC p with hp | ⟨k, hk, rfl⟩
  · exact isC_bad hp (xj1_i 0 (fun J hJ => xj0_i (fun J2 hJ2 => ⟨fun _ => hJ2, fun q => absurd rfl q⟩) hJ) (goes_0 ⟨fun q => absurd rfl q, fun _ => hP _ _ _⟩))
  · have hq : badC q := by
      rcases h with ⟨h | h⟩ | h
      · exact absurd h (nI_pos (by omega))
      · exact absurd h (ge10 hk)
      · exact h
    exact isC_ok hk (xj1_i 0 (fun J hJ => xj0_i (fun J2 hJ2 => ⟨fun q => absurd q (by decide), fun _ => isC_bad hq ⟨fun _ => hJ2, fun q => absurd rfl q⟩⟩) hJ) (goes_0 ⟨fun q => absurd rfl q, fun _ => hP _ _ _⟩))
theorem X1_border_ok {c : Nat → Nat} {mcel : Nat → Int32} (hc : ∀ i, i < 36 → mcel i = cv (c i)) (hb : ∀ i, i < 36 → c i ≤ 10) {k j : Nat} (hk : k < 10) (hj : j < 10) {cells : Nat → Int64} {near : Nat → Int32} {P : Int32 → (Nat → Int64) → (Nat → Int32) → Int32 → Int32 → Prop} (hP : ∀ cells near th, P (nI (bval c k j)) cells near th 0) : q_X1_border (nI k) (nI j) mcel cells near P := by
  unfold q_X1_border
  refine looks_spec hc hb (fun cells' near' h1 h2 => ?_)
  have xk := xin_nI hk (by decide)
  have xj := xin_nI hj (by decide)
  have h := hP cells' near' (nI (th_S c))
  unfold bval at h
  refine isC_ok hk (xj1_i 1 (fun J hJ => xj0_u fun J2 => ⟨fun q => absurd q (by decide), fun _ => isC_ok hj ⟨fun q => absurd q (by decide), fun _ => hJ⟩⟩) (goes_111 ⟨fun _ => ⟨fun e => ⟨xk, xj, ?_⟩, fun e => ?_⟩, fun q => absurd q (by decide)⟩))
  · rw [if_neg (fun z => e (by rw [z]))] at h
    rw [nI_clamp (n := k) (by omega), nI_clamp (n := j) (by omega), h1 k hk, h1 j hj]
    refine touches_spec (ld_lt c k) (ld_lt c j) ⟨xj, xk, touches_spec (ld_lt c j) (ld_lt c k) ?_⟩
    rw [nI_add]
    exact h
  · rw [if_pos ((nI_eq (by omega) (by omega)).mp e)] at h
    exact h
section CASES
variable {L : Nat} {xs : Nat → Int32} {rec9 : recT} {i : Int32} {land : Nat → Int64} {there : Int32} {near : Nat → Int32} {worn : Nat → Int32} {trial : Nat → Int32} {fits : Nat → Int32} {ways : Nat → Int64} {joined : Nat → Nat → Int32} {mcel : Nat → Int32} {mtint : Nat → Int32} {mcells : Nat → Int64} {mnear : Nat → Int32} {mthere : Int32} {mways : Nat → Int64} {mmore : Nat → Int64} {mthrown : Int32} {out : Nat → Int64} {c t : Nat → Nat}
theorem case9 (hx : xin (i + (1 : Int32)) L = true) (hx2 : xin (i + (2 : Int32)) L = true) (r : RelX land there near worn mcel mtint c t) (hr : RecOK rec9 i) : q_L_case9 L xs rec9 i land there near worn trial fits ways joined mcel mtint mcells mnear mthere mways mmore mthrown out := by
  obtain ⟨hb, ht, hl, hth, hn, hw, hc, hm⟩ := id r
  unfold q_L_case9 q_L_border
  refine ⟨hx, hx2, ?_⟩
  generalize xs (i + (1 : Int32)).toNatClampNeg = p
  generalize xs (i + (2 : Int32)).toNatClampNeg = q
  refine X0_border_a hl (fun hB => ⟨rfl, hx, hx2, X1_border_bad hc hb hB (fun _ _ _ => ?_)⟩) (fun k j hk hj e1 e2 => ⟨hx, hx2, ?_⟩)
  · exact thr (end_ex (by decide) (hr _ _ _ _ _ _ _ _ _ _ _ _ _ _ _ _ _ c t r))
  · subst e1 e2
    refine X1_border_ok hc hb hk hj (fun _ _ _ => ?_)
    exact thr (end_ok (hr _ _ _ _ _ _ _ _ _ _ _ _ _ _ _ _ _ c t r))
end CASES
