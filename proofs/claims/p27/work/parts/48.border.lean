/-! the pure side: border -/
theorem ct_add (p : Nat → Bool) (s : Nat) : ∀ n, ct p (n + s) = ct p s + ct (fun i => p (i + s)) n
  | 0 => by rw [Nat.zero_add]; rfl
  | n + 1 => by
    rw [show n + 1 + s = n + s + 1 from by omega, ct, ct, ct_add p s n, Nat.add_assoc]
theorem mv {p : Nat → Bool} {s : Nat} (h1 : ∀ i, i < s → p i = false) (h2 : ∀ i, 36 ≤ i → p i = false) : ct p 36 = ct (fun i => p (i + s)) 36 := by
  have e1 := ct_add p s 36
  rw [ct_zero.mpr h1, Nat.zero_add] at e1
  rw [← e1]
  exact (ct_more (by omega) (fun k q _ => h2 k q)).symm
theorem and_ltR {a b n : Nat} (hb : b < 2 ^ n) : a &&& b < 2 ^ n := Nat.lt_of_le_of_lt Nat.and_le_right hb
theorem br_1 {A B : Nat} (hA : A < 2 ^ 36) (hB : B < 2 ^ 36) : pc (A / 2 ^ 6 &&& B) = pc (B * 2 ^ 6 &&& A) := by
  rw [pc_n (n := 36) (and_ltR hB) (by decide), pc_n (n := 36) (and_ltR hA) (by decide)]
  refine Eq.trans ?_ (mv (s := 6) (fun i hi => ?_) (fun i hi => ?_)).symm
  · refine ct_cong fun k hk => ?_
    rw [Nat.testBit_and, Nat.testBit_and, Nat.testBit_div_two_pow, bd_shl, decide_eq_true (by omega), Nat.add_sub_cancel, Bool.true_and, Bool.and_comm]
  · rw [Nat.testBit_and, bd_shl, decide_eq_false (by omega), Bool.false_and, Bool.false_and]
  · rw [Nat.testBit_and, big_bit hA hi, Bool.and_false]
theorem br_2 {A B : Nat} (hB : B < 2 ^ 36) : (A * 2 ^ 6 &&& cM) &&& B = A * 2 ^ 6 &&& B := by
  refine Nat.eq_of_testBit_eq fun i => ?_
  rw [Nat.testBit_and, Nat.testBit_and, Nat.testBit_and, cM_bit]
  rcases Nat.lt_or_ge i 36 with q | q
  · rw [decide_eq_true q, Bool.and_true]
  · rw [big_bit hB q, Bool.and_false, Bool.and_false]
theorem br_3 {A B : Nat} (hA : A < 2 ^ 36) (hB : B < 2 ^ 36) : pc ((A &&& cF) / 2 ^ 1 &&& B) = pc ((B &&& cL) * 2 ^ 1 &&& A) := by
  rw [pc_n (n := 36) (and_ltR hB) (by decide), pc_n (n := 36) (and_ltR hA) (by decide)]
  refine Eq.trans ?_ (mv (s := 1) (fun i hi => ?_) (fun i hi => ?_)).symm
  · refine ct_cong fun k hk => ?_
    rw [Nat.testBit_and, Nat.testBit_and, Nat.testBit_div_two_pow, bd_shl, Nat.testBit_and, decide_eq_true (by omega), Nat.add_sub_cancel, Bool.true_and, Nat.testBit_and, cL_bit k hk]
    rcases Nat.lt_or_ge (k + 1) 36 with q | q
    · rw [cF_bit (k + 1) q]
      have e : decide ((k + 1) % 6 ≠ 0) = decide (k % 6 ≠ 5) := decide_eq_decide.mpr (by omega)
      rw [e]
      cases A.testBit (k + 1) <;> cases B.testBit k <;> cases decide (k % 6 ≠ 5) <;> rfl
    · rw [big_bit hA q, Bool.false_and, Bool.false_and, Bool.and_false]
  · rw [Nat.testBit_and, bd_shl, decide_eq_false (by omega), Bool.false_and, Bool.false_and]
  · rw [Nat.testBit_and, big_bit hA hi, Bool.and_false]
def bo (A B : Nat) : Nat := pc ((A &&& cL) * 2 ^ 1 &&& B) + pc (A * 2 ^ 6 &&& B)
theorem ab_i {A : Nat} (hA : A < 2 ^ 36) {P : Int64 → Prop} (h : P (lN (A / 2 ^ 6))) : q_X0_above (lN A) P := by
  unfold q_X0_above
  rw [show (6 : Int32) = nI 6 from rfl, pL_ushr' (by decide) (by omega)]; exact h
theorem be_i {A : Nat} (hA : A < 2 ^ 36) {P : Int64 → Prop} (h : P (lN (A * 2 ^ 6 &&& cM))) : q_X0_below (lN A) P := by
  unfold q_X0_below
  rw [show (6 : Int32) = nI 6 from rfl, cM_eq, pL_shl' (by decide) (by omega), pL_and]; exact h
theorem lf_i {A : Nat} (hA : A < 2 ^ 36) {P : Int64 → Prop} (h : P (lN ((A &&& cF) / 2 ^ 1))) : q_X0_leftOf (lN A) P := by
  unfold q_X0_leftOf
  have h2 : A &&& cF < 2 ^ 36 := and_lt hA
  rw [show (1 : Int32) = nI 1 from rfl, cF_eq, pL_and, pL_ushr' (by decide) (by omega)]; exact h
theorem ri_i {A : Nat} (hA : A < 2 ^ 36) {P : Int64 → Prop} (h : P (lN ((A &&& cL) * 2 ^ 1))) : q_X0_rightOf (lN A) P := by
  unfold q_X0_rightOf
  have h2 : A &&& cL < 2 ^ 36 := and_lt hA
  rw [show (1 : Int32) = nI 1 from rfl, cL_eq, pL_and, pL_shl' (by decide) (by omega)]; exact h
section CASES
theorem X0_border_end {A B : Nat} (hA : A < 2 ^ 36) (hB : B < 2 ^ 36) {Q : Int32 → Int32 → Int32 → Int32 → Prop} (h : Q (nI (pc (B * 2 ^ 6 &&& A))) (nI (pc (A * 2 ^ 6 &&& B))) (nI (pc ((B &&& cL) * 2 ^ 1 &&& A))) (nI (pc ((A &&& cL) * 2 ^ 1 &&& B)))) : q_X0_above (lN A) (fun (r3 : Int64) => q_J13_bitCount_95d88 (r3 &&& lN B) (fun (r4 : Int32) => q_X0_below (lN A) (fun (r5 : Int64) => q_J13_bitCount_95d88 (r5 &&& lN B) (fun (r6 : Int32) => q_X0_leftOf (lN A) (fun (r7 : Int64) => q_J13_bitCount_95d88 (r7 &&& lN B) (fun (r8 : Int32) => q_X0_rightOf (lN A) (fun (r9 : Int64) => q_J13_bitCount_95d88 (r9 &&& lN B) (fun (r10 : Int32) => Q r4 r6 r8 r10)))))))) := by
  refine ab_i hA ?_
  rw [pL_and]
  refine J13_spec (and_ltR hB) (be_i hA ?_)
  rw [pL_and]
  refine J13_spec (and_ltR hB) (lf_i hA ?_)
  rw [pL_and]
  refine J13_spec (and_ltR hB) (ri_i hA ?_)
  rw [pL_and]
  refine J13_spec (and_ltR hB) ?_
  rw [br_1 hA hB, br_2 hB, br_3 hA hB]
  exact h
theorem bo_sum (A B : Nat) : ((nI (pc (B * 2 ^ 6 &&& A)) + nI (pc (A * 2 ^ 6 &&& B))) + nI (pc ((B &&& cL) * 2 ^ 1 &&& A))) + nI (pc ((A &&& cL) * 2 ^ 1 &&& B)) = nI (bo A B + bo B A) := by
  rw [nI_add, nI_add, nI_add]
  unfold bo
  exact congrArg nI (by omega)
end CASES
