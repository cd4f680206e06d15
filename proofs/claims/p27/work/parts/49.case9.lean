/-! the pure side: border, the case -/
def bval (c : Nat → Nat) (k j : Nat) : Nat := if k = j then 0 else bo (ld_S c k) (ld_S c j) + bo (ld_S c j) (ld_S c k)
theorem X0_border_a {c : Nat → Nat} {land : Nat → Int64} (hl : ∀ k, k < 10 → land k = lN (ld_S c k)) {p q : Int32} {P : Int32 → Prop} {T : String → Prop} (hT : badC p ∨ badC q → T "java/lang/IndexOutOfBoundsException") (hP : ∀ k j, k < 10 → j < 10 → p = nI k → q = nI j → P (nI (bval c k j))) : q_X0_border p q land P T := by
  unfold q_X0_border
  rcases allC p with hp | ⟨k, hk, rfl⟩
  · exact chkC_bad hp (hT (Or.inl hp))
  refine chkC_ok hk ?_
  rcases allC q with hq | ⟨j, hj, rfl⟩
  · exact chkC_bad hq (hT (Or.inr hq))
  have h := hP k j hk hj rfl rfl
  unfold bval at h
  refine chkC_ok hj ⟨fun e => ⟨xin_nI hk (by decide), xl_i ⟨xin_nI hj (by decide), xl_i ?_⟩⟩, fun e => ?_⟩
  · rw [if_neg (fun z => e (by rw [z]))] at h
    rw [nI_clamp (n := k) (by omega), nI_clamp (n := j) (by omega), hl k hk, hl j hj]
    refine X0_border_end (Q := fun r4 r6 r8 r10 => P (((r4 + r6) + r8) + r10)) (ld_lt c k) (ld_lt c j) ?_
    show P _
    rw [bo_sum]
    exact h
  · rw [if_pos ((nI_eq (by omega) (by omega)).mp e)] at h
    exact h
