abbrev rm_L_many : Room := { frames := 8, cells := 0, slots := 0, locals := 120 }
def q_L_many_L4 (u0 : Int32) (P0 : Int32 → Prop) : Nat → Int32 → Int32 → Prop
  | 0, _, _ => False
  | n + 1, x1, x2 => (((10 : Int32) ≤ x2 → P0 x1) ∧ (¬ (10 : Int32) ≤ x2 → xl (x1 + ((u0 >>> (x2 &&& 31)) &&& (1 : Int32))) (fun y1 => q_L_many_L4 u0 P0 n y1 (x2 + (1 : Int32)))))
def q_L_many (p0 : Int32) (P : Int32 → Prop) : Prop := (∃ n2 : Nat, q_L_many_L4 p0 (fun (v3 : Int32) => P v3) n2 (0 : Int32) (0 : Int32))
set_option maxHeartbeats 4000000 in
set_option maxRecDepth 100000 in
theorem w_L_many_L4 {X : xC} {l : Launch} {D : va_G} {cI cJ cZ cA : ClassId} (K : xk X l rm_L_many D vwCl (xtys cI cJ cZ cA) cL_many RL wsL_many 3) (u0 : Int32) (P0 : Int32 → Prop) : ∀ (n : Nat) (x1 : Int32) (x2 : Int32), q_L_many_L4 u0 P0 n x1 x2 → (∀ (z0 : Int32), P0 z0 → xw X 0 0 24 [(1, .int z0)] [] []) → xw X 0 0 4 [(0, .int u0), (1, .int x1), (2, .int x2)] [] [] := by
  intro n
  induction n with
  | zero =>
    intro x1 x2 h
    rw [q_L_many_L4] at h
    exact h.elim
  | succ n ih =>
    intro x1 x2 h k0
    rw [q_L_many_L4] at h
    refine x_iload_n (pc := 4) K dL_many_4 2 rfl rfl ?_
    refine x_bipush (v := (10)) (pc := 5) K dL_many_5 (by decide) ?_
    refine x_icmp_ge (pc := 7) K dL_many_7 (tgt := 24) (by decide) (fun c9 => ?_) (fun c9 => ?_)
    · have h := h.1 c9
      refine x_keep [false, true, false] rfl ?_
      exact k0 x1 h
    · have h := h.2 c9
      refine x_iload_n (pc := 10) K dL_many_10 1 rfl rfl ?_
      refine x_iload_n (pc := 11) K dL_many_11 0 rfl rfl ?_
      refine x_iload_n (pc := 12) K dL_many_12 2 rfl rfl ?_
      refine x_ishr (pc := 13) K dL_many_13 ?_
      refine x_iconst (v := (1)) (pc := 14) K dL_many_14 (by decide) ?_
      refine x_iand (pc := 15) K dL_many_15 ?_
      refine x_iadd (pc := 16) K dL_many_16 ?_
      obtain ⟨y1, ey1, h⟩ := xl_o h
      refine x_topi ey1 ?_
      clear ey1
      refine x_istore_n (lv' := [(0, .int u0), (1, .int y1), (2, .int x2)]) (pc := 17) K dL_many_17 rfl (by decide) rfl ?_
      refine x_iinc (v := x2 + (1 : Int32)) (lv' := [(0, .int u0), (1, .int y1), (2, .int (x2 + (1 : Int32)))]) (pc := 18) K dL_many_18 (k := 2) rfl rfl (by decide) rfl ?_
      refine x_goto (pc := 21) K dL_many_21 (tgt := 4) (by decide) ?_
      exact ih y1 (x2 + (1 : Int32)) h k0
set_option maxHeartbeats 4000000 in
set_option maxRecDepth 100000 in
theorem c_L_many (l : Launch) (D : va_G) (cI cJ cZ cA : ClassId) (p0 : Int32) (P : Int32 → Prop) (h : q_L_many p0 P) : xMi l yL_many wsL_many rm_L_many D vwCl (xtys cI cJ cZ cA) [] [.int p0] (σ := Unit) (fun _ => []) (fun r _ => P r) := by
  refine xMi_of (cc := cL_many) (maxL := 3) (by decide) rfl (Nat.le_of_ble_eq_true rfl) ?_
  intro X K hX
  have K : xk X l rm_L_many D vwCl (xtys cI cJ cZ cA) cL_many RL wsL_many 3 := K
  unfold q_L_many at h
  refine x_iconst (v := (0)) (pc := 0) K dL_many_0 (by decide) ?_
  refine x_istore_n (lv' := [(0, .int p0), (1, .int (0 : Int32))]) (pc := 1) K dL_many_1 rfl (by decide) rfl ?_
  refine x_iconst (v := (0)) (pc := 2) K dL_many_2 (by decide) ?_
  refine x_istore_n (lv' := [(0, .int p0), (1, .int (0 : Int32)), (2, .int (0 : Int32))]) (pc := 3) K dL_many_3 rfl (by decide) rfl ?_
  obtain ⟨n2, h⟩ := h
  refine w_L_many_L4 K p0 _ n2 (0 : Int32) (0 : Int32) h (fun v3 h => ?_)
  refine x_iload_n (pc := 24) K dL_many_24 0 rfl rfl ?_
  exact hX v3 () _ _ h dL_many_25
abbrev rm_L_low : Room := { frames := 8, cells := 0, slots := 0, locals := 120 }
theorem kL_low_0 : Cond.constant RL 9 (2147483647) ∈ wsL_low := by decide +kernel
def q_L_low (p0 : Int32) (p1 : Int32) (P : Int32 → Prop) : Prop := ¬ p1 = 0 ∧ P ((p0 &&& (2147483647 : Int32)) - (p0 &&& (2147483647 : Int32)) / p1 * p1)
set_option maxHeartbeats 4000000 in
set_option maxRecDepth 100000 in
theorem c_L_low (l : Launch) (D : va_G) (cI cJ cZ cA : ClassId) (p0 : Int32) (p1 : Int32) (P : Int32 → Prop) (h : q_L_low p0 p1 P) : xMi l yL_low wsL_low rm_L_low D vwCl (xtys cI cJ cZ cA) [] [.int p0, .int p1] (σ := Unit) (fun _ => []) (fun r _ => P r) := by
  refine xMi_of (cc := cL_low) (maxL := 2) (by decide) rfl (Nat.le_of_ble_eq_true rfl) ?_
  intro X K hX
  have K : xk X l rm_L_low D vwCl (xtys cI cJ cZ cA) cL_low RL wsL_low 2 := K
  unfold q_L_low at h
  refine x_iload_n (pc := 0) K dL_low_0 0 rfl rfl ?_
  refine x_ldc (pc := 1) (v := (2147483647)) K kL_low_0 dL_low_1 ?_
  refine x_iand (pc := 3) K dL_low_3 ?_
  refine x_iload_n (pc := 4) K dL_low_4 1 rfl rfl ?_
  have g9 := h.1
  replace h := h.2
  refine x_irem (pc := 5) K g9 dL_low_5 ?_
  clear g9
  exact hX ((p0 &&& (2147483647 : Int32)) - (p0 &&& (2147483647 : Int32)) / p1 * p1) () _ _ h dL_low_6
abbrev rm_L_cell : Room := { frames := 11, cells := 0, slots := 0, locals := 240 }
def q_L_cell (p1 : Int32) (p2 : Int32) (land : Nat → Int64) (P : Int32 → Prop) : Prop := ((p1 < (0 : Int32) → P (-2 : Int32)) ∧ (¬ p1 < (0 : Int32) → (((5 : Int32) < p1 → P (-2 : Int32)) ∧ (¬ (5 : Int32) < p1 → ((p2 < (0 : Int32) → P (-2 : Int32)) ∧ (¬ p2 < (0 : Int32) → ((p2 ≤ (5 : Int32) → q0_L_countryAt p1 p2 land (fun (r1 : Int32) => P r1)) ∧ (¬ p2 ≤ (5 : Int32) → P (-2 : Int32)))))))))
set_option maxHeartbeats 4000000 in
set_option maxRecDepth 100000 in
theorem c_L_cell (l : Launch) (D : va_G) (cI cJ cZ cA : ClassId) (V : Nat → Nat) (p1 : Int32) (p2 : Int32) (land : Nat → Int64) (there : Int32) (near : Nat → Int32) (worn : Nat → Int32) (trial : Nat → Int32) (fits : Nat → Int32) (ways : Nat → Int64) (joined : Nat → Nat → Int32) (P : Int32 → Prop) (h : q_L_cell p1 p2 land P) : xMi l yL_cell wsL_cell rm_L_cell D vwCl (xtys cI cJ cZ cA) (wX0J cI cJ cZ cA V land there near worn trial fits ways joined) [.ref (V 0), .int p1, .int p2] (σ := Unit) (fun _ => (wX0J cI cJ cZ cA V land there near worn trial fits ways joined)) (fun r _ => P r) := by
  refine xMi_of (cc := cL_cell) (maxL := 3) (by decide) rfl (Nat.le_of_ble_eq_true rfl) ?_
  intro X K hX
  have K : xk X l rm_L_cell D vwCl (xtys cI cJ cZ cA) cL_cell RL wsL_cell 3 := K
  unfold q_L_cell at h
  refine x_iload_n (pc := 0) K dL_cell_0 1 rfl rfl ?_
  refine x_if_lt (pc := 1) K dL_cell_1 (tgt := 18) (by decide) (fun c9 => ?_) (fun c9 => ?_)
  · have h := h.1 c9
    refine x_keep [false, false, false] rfl ?_
    refine x_bipush (v := (-2)) (pc := 18) K dL_cell_18 (by decide) ?_
    refine x_goto (pc := 20) K dL_cell_20 (tgt := 29) (by decide) ?_
    exact hX (-2 : Int32) () _ _ h dL_cell_29
  · have h := h.2 c9
    refine x_iload_n (pc := 4) K dL_cell_4 1 rfl rfl ?_
    refine x_iconst (v := (5)) (pc := 5) K dL_cell_5 (by decide) ?_
    refine x_icmp_gt (pc := 6) K dL_cell_6 (tgt := 18) (by decide) (fun c9 => ?_) (fun c9 => ?_)
    · have h := h.1 c9
      refine x_keep [false, false, false] rfl ?_
      refine x_bipush (v := (-2)) (pc := 18) K dL_cell_18 (by decide) ?_
      refine x_goto (pc := 20) K dL_cell_20 (tgt := 29) (by decide) ?_
      exact hX (-2 : Int32) () _ _ h dL_cell_29
    · have h := h.2 c9
      refine x_iload_n (pc := 9) K dL_cell_9 2 rfl rfl ?_
      refine x_if_lt (pc := 10) K dL_cell_10 (tgt := 18) (by decide) (fun c9 => ?_) (fun c9 => ?_)
      · have h := h.1 c9
        refine x_keep [false, false, false] rfl ?_
        refine x_bipush (v := (-2)) (pc := 18) K dL_cell_18 (by decide) ?_
        refine x_goto (pc := 20) K dL_cell_20 (tgt := 29) (by decide) ?_
        exact hX (-2 : Int32) () _ _ h dL_cell_29
      · have h := h.2 c9
        refine x_iload_n (pc := 13) K dL_cell_13 2 rfl rfl ?_
        refine x_iconst (v := (5)) (pc := 14) K dL_cell_14 (by decide) ?_
        refine x_icmp_le (pc := 15) K dL_cell_15 (tgt := 23) (by decide) (fun c9 => ?_) (fun c9 => ?_)
        · have h := h.1 c9
          refine x_aload_n (pc := 23) K dL_cell_23 0 rfl rfl ?_
          refine x_iload_n (pc := 24) K dL_cell_24 1 rfl rfl ?_
          refine x_iload_n (pc := 25) K dL_cell_25 2 rfl rfl ?_
          refine x_wcallSi (pc := 26) (n := 3) K (c0_L_countryAt l D cI cJ cZ cA V p1 p2 land there near worn trial fits ways joined _ h) rfl rfl gL_cell_L_countryAt rfl (by decide +kernel) ⟨Nat.le_of_ble_eq_true rfl, Nat.le_of_ble_eq_true rfl⟩ rfl (av := [.ref (V 0), .int p1, .int p2]) rfl (Nat.le_of_ble_eq_true rfl) [0, 1, 2, 3, 4, 5, 6, 7, 8, 9, 10, 11, 12, 13, 14, 15, 16, 17] [] (wr := []) rfl rfl rfl rfl (by decide) dL_cell_26 ⟨Nat.le_of_ble_eq_true rfl, Nat.le_of_ble_eq_true rfl⟩ (fun r1 u9 h => ?_)
          refine x_wsub (ws' := (wX0J cI cJ cZ cA V land there near worn trial fits ways joined)) [0, 1, 2, 3, 4, 5, 6, 7, 8, 9, 10, 11, 12, 13, 14, 15, 16, 17] rfl rfl ?_
          refine x_keep [false, false, false] rfl ?_
          exact hX r1 () _ _ h dL_cell_29
        · have h := h.2 c9
          refine x_keep [false, false, false] rfl ?_
          refine x_bipush (v := (-2)) (pc := 18) K dL_cell_18 (by decide) ?_
          refine x_goto (pc := 20) K dL_cell_20 (tgt := 29) (by decide) ?_
          exact hX (-2 : Int32) () _ _ h dL_cell_29
abbrev rm_L_sum : Room := { frames := 11, cells := 0, slots := 0, locals := 240 }
theorem kL_sum_0 : Cond.constantLong RL 125 (11) ∈ wsL_sum := by decide +kernel
def q_L_sum_L4 (worn : Nat → Int32) (P0 : Int64 → Prop) : Nat → Int64 → Int32 → Prop
  | 0, _, _ => False
  | n + 1, x1, x3 => (((10 : Int32) ≤ x3 → P0 x1) ∧ (¬ (10 : Int32) ≤ x3 → q0_L_tintOf x3 worn (fun (r1 : Int32) => xl (((11 : Int64) * x1) + r1.toInt64) (fun y2 => q_L_sum_L4 worn P0 n y2 (x3 + (1 : Int32))))))
def q_L_sum (worn : Nat → Int32) (P : Int64 → Prop) : Prop := (∃ n3 : Nat, q_L_sum_L4 worn (fun (v4 : Int64) => P v4) n3 (0 : Int64) (0 : Int32))
set_option maxHeartbeats 4000000 in
set_option maxRecDepth 100000 in
theorem w_L_sum_L4 {X : xC} {l : Launch} {D : va_G} {cI cJ cZ cA : ClassId} {V : Nat → Nat} (K : xk X l rm_L_sum D vwCl (xtys cI cJ cZ cA) cL_sum RL wsL_sum 4) (land : Nat → Int64) (there : Int32) (near : Nat → Int32) (worn : Nat → Int32) (trial : Nat → Int32) (fits : Nat → Int32) (ways : Nat → Int64) (joined : Nat → Nat → Int32) (P0 : Int64 → Prop) : ∀ (n : Nat) (x1 : Int64) (x3 : Int32), q_L_sum_L4 worn P0 n x1 x3 → (∀ (z0 : Int64), P0 z0 → xw X 0 0 29 [(1, .long z0)] [] (wX0J cI cJ cZ cA V land there near worn trial fits ways joined)) → xw X 0 0 4 [(0, .ref (V 0)), (1, .long x1), (3, .int x3)] [] (wX0J cI cJ cZ cA V land there near worn trial fits ways joined) := by
  intro n
  induction n with
  | zero =>
    intro x1 x3 h
    rw [q_L_sum_L4] at h
    exact h.elim
  | succ n ih =>
    intro x1 x3 h k0
    rw [q_L_sum_L4] at h
    refine x_iload_n (pc := 4) K dL_sum_4 2 rfl rfl ?_
    refine x_bipush (v := (10)) (pc := 5) K dL_sum_5 (by decide) ?_
    refine x_icmp_ge (pc := 7) K dL_sum_7 (tgt := 29) (by decide) (fun c9 => ?_) (fun c9 => ?_)
    · have h := h.1 c9
      refine x_keep [false, true, false] rfl ?_
      exact k0 x1 h
    · have h := h.2 c9
      refine x_ldc2 (pc := 10) (v := (11)) K kL_sum_0 dL_sum_10 ?_
      refine x_lload_n (pc := 13) K dL_sum_13 1 rfl rfl ?_
      refine x_lmul (pc := 14) K dL_sum_14 ?_
      refine x_aload_n (pc := 15) K dL_sum_15 0 rfl rfl ?_
      refine x_iload_n (pc := 16) K dL_sum_16 2 rfl rfl ?_
      refine x_wcallSi (pc := 17) (n := 2) K (c0_L_tintOf l D cI cJ cZ cA V x3 land there near worn trial fits ways joined _ h) rfl rfl gL_sum_L_tintOf rfl (by decide +kernel) ⟨Nat.le_of_ble_eq_true rfl, Nat.le_of_ble_eq_true rfl⟩ rfl (av := [.ref (V 0), .int x3]) rfl (Nat.le_of_ble_eq_true rfl) [0, 1, 2, 3, 4, 5, 6, 7, 8, 9, 10, 11, 12, 13, 14, 15, 16, 17] [] (wr := []) rfl rfl rfl rfl (by decide) dL_sum_17 ⟨Nat.le_of_ble_eq_true rfl, Nat.le_of_ble_eq_true rfl⟩ (fun r1 u9 h => ?_)
      refine x_wsub (ws' := (wX0J cI cJ cZ cA V land there near worn trial fits ways joined)) [0, 1, 2, 3, 4, 5, 6, 7, 8, 9, 10, 11, 12, 13, 14, 15, 16, 17] rfl rfl ?_
      refine x_i2l (pc := 20) K dL_sum_20 ?_
      refine x_ladd (pc := 21) K dL_sum_21 ?_
      obtain ⟨y2, ey2, h⟩ := xl_o h
      refine x_topl ey2 ?_
      clear ey2
      refine x_lstore_n (lv' := [(0, .ref (V 0)), (1, .long y2), (3, .int x3)]) (pc := 22) K dL_sum_22 rfl (by decide) rfl ?_
      refine x_iinc (v := x3 + (1 : Int32)) (lv' := [(0, .ref (V 0)), (1, .long y2), (3, .int (x3 + (1 : Int32)))]) (pc := 23) K dL_sum_23 (k := 2) rfl rfl (by decide) rfl ?_
      refine x_goto (pc := 26) K dL_sum_26 (tgt := 4) (by decide) ?_
      exact ih y2 (x3 + (1 : Int32)) h k0
set_option maxHeartbeats 4000000 in
set_option maxRecDepth 100000 in
theorem c_L_sum (l : Launch) (D : va_G) (cI cJ cZ cA : ClassId) (V : Nat → Nat) (land : Nat → Int64) (there : Int32) (near : Nat → Int32) (worn : Nat → Int32) (trial : Nat → Int32) (fits : Nat → Int32) (ways : Nat → Int64) (joined : Nat → Nat → Int32) (P : Int64 → Prop) (h : q_L_sum worn P) : xMl l yL_sum wsL_sum rm_L_sum D vwCl (xtys cI cJ cZ cA) (wX0J cI cJ cZ cA V land there near worn trial fits ways joined) [.ref (V 0)] (σ := Unit) (fun _ => (wX0J cI cJ cZ cA V land there near worn trial fits ways joined)) (fun r _ => P r) := by
  refine xMl_of (cc := cL_sum) (maxL := 4) (by decide) rfl (Nat.le_of_ble_eq_true rfl) ?_
  intro X K hX
  have K : xk X l rm_L_sum D vwCl (xtys cI cJ cZ cA) cL_sum RL wsL_sum 4 := K
  unfold q_L_sum at h
  refine x_lconst (v := (0)) (pc := 0) K dL_sum_0 (by decide) ?_
  refine x_lstore_n (lv' := [(0, .ref (V 0)), (1, .long (0 : Int64))]) (pc := 1) K dL_sum_1 rfl (by decide) rfl ?_
  refine x_iconst (v := (0)) (pc := 2) K dL_sum_2 (by decide) ?_
  refine x_istore_n (lv' := [(0, .ref (V 0)), (1, .long (0 : Int64)), (3, .int (0 : Int32))]) (pc := 3) K dL_sum_3 rfl (by decide) rfl ?_
  obtain ⟨n3, h⟩ := h
  refine w_L_sum_L4 K land there near worn trial fits ways joined _ n3 (0 : Int64) (0 : Int32) h (fun v4 h => ?_)
  refine x_lload_n (pc := 29) K dL_sum_29 0 rfl rfl ?_
  exact hX v4 () _ _ h dL_sum_30
abbrev rm_L_encloses : Room := { frames := 13, cells := 0, slots := 0, locals := 320 }
def q_L_encloses_L16 (u1 : Int32) (land : Nat → Int64) (P0 : Int64 → Int32 → Prop) : Nat → Int64 → Int32 → Int32 → Prop
  | 0, _, _, _ => False
  | n + 1, x2, x4, x5 => (((36 : Int32) ≤ x5 → P0 x2 x4) ∧ (¬ (36 : Int32) ≤ x5 → xl (x5 / (6 : Int32)) (fun y1 => xl (x5 - x5 / (6 : Int32) * (6 : Int32)) (fun y2 => xj1 (fun (v4 : Int32) => xj1 (fun (v6 : Int32) => ((¬ (lg_cmp ((xlshr x2 x5) &&& (1 : Int64)) (0 : Int64)) = (0 : Int32) → q_L_encloses_L16 u1 land P0 n x2 x4 (x5 + (1 : Int32))) ∧ ((lg_cmp ((xlshr x2 x5) &&& (1 : Int64)) (0 : Int64)) = (0 : Int32) → ((v6 = (0 : Int32) → q_L_encloses_L16 u1 land P0 n x2 x4 (x5 + (1 : Int32))) ∧ (¬ v6 = (0 : Int32) → q_L_cell y1 y2 land (fun (r7 : Int32) => ((r7 = u1 → q_L_encloses_L16 u1 land P0 n x2 x4 (x5 + (1 : Int32))) ∧ (¬ r7 = u1 → xl (x2 ||| (xlshl (1 : Int64) x5)) (fun y8 => q_L_encloses_L16 u1 land P0 n y8 (1 : Int32) (x5 + (1 : Int32))))))))))) (fun (J5 : Int32 → Prop) => xj0 (J5 (1 : Int32)) (fun (J9 : Prop) => ((¬ v4 = (0 : Int32) → J9) ∧ (v4 = (0 : Int32) → (((lg_cmp ((xlshr x2 (x5 - (6 : Int32))) &&& (1 : Int64)) (1 : Int64)) = (0 : Int32) → J9) ∧ (¬ (lg_cmp ((xlshr x2 (x5 - (6 : Int32))) &&& (1 : Int64)) (1 : Int64)) = (0 : Int32) → (((lg_cmp ((xlshr x2 (x5 + (6 : Int32))) &&& (1 : Int64)) (1 : Int64)) = (0 : Int32) → J9) ∧ (¬ (lg_cmp ((xlshr x2 (x5 + (6 : Int32))) &&& (1 : Int64)) (1 : Int64)) = (0 : Int32) → (((lg_cmp ((xlshr x2 (x5 - (1 : Int32))) &&& (1 : Int64)) (1 : Int64)) = (0 : Int32) → J9) ∧ (¬ (lg_cmp ((xlshr x2 (x5 - (1 : Int32))) &&& (1 : Int64)) (1 : Int64)) = (0 : Int32) → ((¬ (lg_cmp ((xlshr x2 (x5 + (1 : Int32))) &&& (1 : Int64)) (1 : Int64)) = (0 : Int32) → J5 (0 : Int32)) ∧ ((lg_cmp ((xlshr x2 (x5 + (1 : Int32))) &&& (1 : Int64)) (1 : Int64)) = (0 : Int32) → J9))))))))))))) (fun (J3 : Int32 → Prop) => xj0 (J3 (1 : Int32)) (fun (J10 : Prop) => (((y1 - y1 / (5 : Int32) * (5 : Int32)) = (0 : Int32) → J10) ∧ (¬ (y1 - y1 / (5 : Int32) * (5 : Int32)) = (0 : Int32) → ((¬ (y2 - y2 / (5 : Int32) * (5 : Int32)) = (0 : Int32) → J3 (0 : Int32)) ∧ ((y2 - y2 / (5 : Int32) * (5 : Int32)) = (0 : Int32) → J10))))))))))
def q_L_encloses_L5 (u1 : Int32) (land : Nat → Int64) (P0 : Int64 → Prop) : Nat → Int64 → Int32 → Prop
  | 0, _, _ => False
  | n + 1, x2, x4 => ((x4 = (0 : Int32) → P0 x2) ∧ (¬ x4 = (0 : Int32) → (∃ n11 : Nat, q_L_encloses_L16 u1 land (fun (v12 : Int64) (v13 : Int32) => q_L_encloses_L5 u1 land P0 n v12 v13) n11 x2 (0 : Int32) (0 : Int32))))
def q_L_encloses_L177 (u1 : Int32) (u2 : Int64) (land : Nat → Int64) (P0 : Int32 → Prop) : Nat → Int32 → Int32 → Prop
  | 0, _, _ => False
  | n + 1, x5, x6 => (((36 : Int32) ≤ x6 → P0 x5) ∧ (¬ (36 : Int32) ≤ x6 → ((¬ (lg_cmp ((xlshr u2 x6) &&& (1 : Int64)) (0 : Int64)) = (0 : Int32) → xl (x5 + (0 : Int32)) (fun y16 => q_L_encloses_L177 u1 u2 land P0 n y16 (x6 + (1 : Int32)))) ∧ ((lg_cmp ((xlshr u2 x6) &&& (1 : Int64)) (0 : Int64)) = (0 : Int32) → q_L_cell (x6 / (6 : Int32)) (x6 - x6 / (6 : Int32) * (6 : Int32)) land (fun (r17 : Int32) => ((r17 = u1 → xl (x5 + (0 : Int32)) (fun y18 => q_L_encloses_L177 u1 u2 land P0 n y18 (x6 + (1 : Int32)))) ∧ (¬ r17 = u1 → xl (x5 + (1 : Int32)) (fun y19 => q_L_encloses_L177 u1 u2 land P0 n y19 (x6 + (1 : Int32))))))))))
def q_L_encloses (p1 : Int32) (land : Nat → Int64) (P : Int32 → Prop) : Prop := (∃ n14 : Nat, q_L_encloses_L5 p1 land (fun (v15 : Int64) => (∃ n20 : Nat, q_L_encloses_L177 p1 v15 land (fun (v21 : Int32) => q0_L_enclosed p1 land (fun (r22 : Int32) => ((¬ r22 = v21 → (xbool (0 : Int32) ∧ P (0 : Int32))) ∧ (r22 = v21 → (xbool (1 : Int32) ∧ P (1 : Int32)))))) n20 (0 : Int32) (0 : Int32))) n14 (0 : Int64) (1 : Int32))
set_option maxHeartbeats 4000000 in
set_option maxRecDepth 100000 in
theorem w_L_encloses_L16 {X : xC} {l : Launch} {D : va_G} {cI cJ cZ cA : ClassId} {V : Nat → Nat} (K : xk X l rm_L_encloses D vwCl (xtys cI cJ cZ cA) cL_encloses RL wsL_encloses 10) (u1 : Int32) (land : Nat → Int64) (there : Int32) (near : Nat → Int32) (worn : Nat → Int32) (trial : Nat → Int32) (fits : Nat → Int32) (ways : Nat → Int64) (joined : Nat → Nat → Int32) (P0 : Int64 → Int32 → Prop) : ∀ (n : Nat) (x2 : Int64) (x4 : Int32) (x5 : Int32), q_L_encloses_L16 u1 land P0 n x2 x4 x5 → (∀ (z0 : Int64) (z1 : Int32), P0 z0 z1 → xw X 0 0 168 [(0, .ref (V 0)), (1, .int u1), (2, .long z0), (4, .int z1)] [] (wX0J cI cJ cZ cA V land there near worn trial fits ways joined)) → xw X 0 0 16 [(0, .ref (V 0)), (1, .int u1), (2, .long x2), (4, .int x4), (5, .int x5)] [] (wX0J cI cJ cZ cA V land there near worn trial fits ways joined) := by
  intro n
  induction n with
  | zero =>
    intro x2 x4 x5 h
    rw [q_L_encloses_L16] at h
    exact h.elim
  | succ n ih =>
    intro x2 x4 x5 h k0
    rw [q_L_encloses_L16] at h
    refine x_iload (pc := 16) K dL_encloses_16 4 rfl ?_
    refine x_bipush (v := (36)) (pc := 18) K dL_encloses_18 (by decide) ?_
    refine x_icmp_ge (pc := 20) K dL_encloses_20 (tgt := 168) (by decide) (fun c9 => ?_) (fun c9 => ?_)
    · have h := h.1 c9
      refine x_keep [true, true, true, true, false] rfl ?_
      exact k0 x2 x4 h
    · have h := h.2 c9
      refine x_iload (pc := 23) K dL_encloses_23 4 rfl ?_
      refine x_bipush (v := (6)) (pc := 25) K dL_encloses_25 (by decide) ?_
      refine x_idiv (pc := 27) K (by decide) dL_encloses_27 ?_
      obtain ⟨y1, ey1, h⟩ := xl_o h
      refine x_topi ey1 ?_
      clear ey1
      refine x_istore (lv' := [(0, .ref (V 0)), (1, .int u1), (2, .long x2), (4, .int x4), (5, .int x5), (6, .int y1)]) (pc := 28) K dL_encloses_28 (by decide) rfl ?_
      refine x_iload (pc := 30) K dL_encloses_30 4 rfl ?_
      refine x_bipush (v := (6)) (pc := 32) K dL_encloses_32 (by decide) ?_
      refine x_irem (pc := 34) K (by decide) dL_encloses_34 ?_
      obtain ⟨y2, ey2, h⟩ := xl_o h
      refine x_topi ey2 ?_
      clear ey2
      refine x_istore (lv' := [(0, .ref (V 0)), (1, .int u1), (2, .long x2), (4, .int x4), (5, .int x5), (6, .int y1), (7, .int y2)]) (pc := 35) K dL_encloses_35 (by decide) rfl ?_
      refine x_iload (pc := 37) K dL_encloses_37 5 rfl ?_
      refine x_iconst (v := (5)) (pc := 39) K dL_encloses_39 (by decide) ?_
      refine x_irem (pc := 40) K (by decide) dL_encloses_40 ?_
      obtain ⟨J3, hJ3, h⟩ := xj1_o h
      have kJ3 : ∀ (v4 : Int32), J3 v4 → xw X 0 0 56 [(0, .ref (V 0)), (1, .int u1), (2, .long x2), (4, .int x4), (5, .int x5), (6, .int y1), (7, .int y2)] [.int v4] (wX0J cI cJ cZ cA V land there near worn trial fits ways joined) := by
        intro v4 hj
        have h := hJ3 v4 hj
        refine x_istore (lv' := [(0, .ref (V 0)), (1, .int u1), (2, .long x2), (4, .int x4), (5, .int x5), (6, .int y1), (7, .int y2), (8, .int v4)]) (pc := 56) K dL_encloses_56 (by decide) rfl ?_
        refine x_iload (pc := 58) K dL_encloses_58 7 rfl ?_
        obtain ⟨J5, hJ5, h⟩ := xj1_o h
        have kJ5 : ∀ (v6 : Int32), J5 v6 → xw X 0 0 122 [(0, .ref (V 0)), (1, .int u1), (2, .long x2), (4, .int x4), (5, .int x5), (6, .int y1), (7, .int y2)] [.int v6] (wX0J cI cJ cZ cA V land there near worn trial fits ways joined) := by
          intro v6 hj
          have h := hJ5 v6 hj
          refine x_istore (lv' := [(0, .ref (V 0)), (1, .int u1), (2, .long x2), (4, .int x4), (5, .int x5), (6, .int y1), (7, .int y2), (9, .int v6)]) (pc := 122) K dL_encloses_122 (by decide) rfl ?_
          refine x_lload_n (pc := 124) K dL_encloses_124 2 rfl rfl ?_
          refine x_iload (pc := 125) K dL_encloses_125 4 rfl ?_
          refine x_lshr (pc := 127) K dL_encloses_127 ?_
          refine x_lconst (v := (1)) (pc := 128) K dL_encloses_128 (by decide) ?_
          refine x_land (pc := 129) K dL_encloses_129 ?_
          refine x_lconst (v := (0)) (pc := 130) K dL_encloses_130 (by decide) ?_
          refine x_lcmp (pc := 131) K dL_encloses_131 ?_
          refine x_if_ne (pc := 132) K dL_encloses_132 (tgt := 162) (by decide) (fun c9 => ?_) (fun c9 => ?_)
          · have h := h.1 c9
            refine x_keep [true, true, true, true, true, false, false, false] rfl ?_
            refine x_iinc (v := x5 + (1 : Int32)) (lv' := [(0, .ref (V 0)), (1, .int u1), (2, .long x2), (4, .int x4), (5, .int (x5 + (1 : Int32)))]) (pc := 162) K dL_encloses_162 (k := 4) rfl rfl (by decide) rfl ?_
            refine x_goto (pc := 165) K dL_encloses_165 (tgt := 16) (by decide) ?_
            exact ih x2 x4 (x5 + (1 : Int32)) h k0
          · have h := h.2 c9
            refine x_iload (pc := 135) K dL_encloses_135 7 rfl ?_
            refine x_if_eq (pc := 137) K dL_encloses_137 (tgt := 162) (by decide) (fun c9 => ?_) (fun c9 => ?_)
            · have h := h.1 c9
              refine x_keep [true, true, true, true, true, false, false, false] rfl ?_
              refine x_iinc (v := x5 + (1 : Int32)) (lv' := [(0, .ref (V 0)), (1, .int u1), (2, .long x2), (4, .int x4), (5, .int (x5 + (1 : Int32)))]) (pc := 162) K dL_encloses_162 (k := 4) rfl rfl (by decide) rfl ?_
              refine x_goto (pc := 165) K dL_encloses_165 (tgt := 16) (by decide) ?_
              exact ih x2 x4 (x5 + (1 : Int32)) h k0
            · have h := h.2 c9
              refine x_keep [true, true, true, true, true, true, true, false] rfl ?_
              refine x_aload_n (pc := 140) K dL_encloses_140 0 rfl rfl ?_
              refine x_iload (pc := 141) K dL_encloses_141 5 rfl ?_
              refine x_iload (pc := 143) K dL_encloses_143 6 rfl ?_
              refine x_callSi (pc := 145) (n := 3) K (c_L_cell l D cI cJ cZ cA V y1 y2 land there near worn trial fits ways joined _ h) rfl rfl gL_encloses_L_cell rfl (by decide +kernel) ⟨Nat.le_of_ble_eq_true rfl, Nat.le_of_ble_eq_true rfl⟩ rfl (av := [.ref (V 0), .int y1, .int y2]) rfl (Nat.le_of_ble_eq_true rfl) [0, 1, 2, 3, 4, 5, 6, 7, 8, 9, 10, 11, 12, 13, 14, 15, 16, 17] [] (wr := []) rfl rfl rfl rfl (by decide) dL_encloses_145 ⟨Nat.le_of_ble_eq_true rfl, Nat.le_of_ble_eq_true rfl⟩ (fun r7 u9 h => ?_)
              refine x_wsub (ws' := (wX0J cI cJ cZ cA V land there near worn trial fits ways joined)) [0, 1, 2, 3, 4, 5, 6, 7, 8, 9, 10, 11, 12, 13, 14, 15, 16, 17] rfl rfl ?_
              refine x_iload_n (pc := 148) K dL_encloses_148 1 rfl rfl ?_
              refine x_icmp_eq (pc := 149) K dL_encloses_149 (tgt := 162) (by decide) (fun c9 => ?_) (fun c9 => ?_)
              · have h := h.1 c9
                refine x_keep [true, true, true, true, true, false, false] rfl ?_
                refine x_iinc (v := x5 + (1 : Int32)) (lv' := [(0, .ref (V 0)), (1, .int u1), (2, .long x2), (4, .int x4), (5, .int (x5 + (1 : Int32)))]) (pc := 162) K dL_encloses_162 (k := 4) rfl rfl (by decide) rfl ?_
                refine x_goto (pc := 165) K dL_encloses_165 (tgt := 16) (by decide) ?_
                exact ih x2 x4 (x5 + (1 : Int32)) h k0
              · have h := h.2 c9
                refine x_keep [true, true, true, false, true, false, false] rfl ?_
                refine x_lload_n (pc := 152) K dL_encloses_152 2 rfl rfl ?_
                refine x_lconst (v := (1)) (pc := 153) K dL_encloses_153 (by decide) ?_
                refine x_iload (pc := 154) K dL_encloses_154 3 rfl ?_
                refine x_lshl (pc := 156) K dL_encloses_156 ?_
                refine x_lor (pc := 157) K dL_encloses_157 ?_
                obtain ⟨y8, ey8, h⟩ := xl_o h
                refine x_topl ey8 ?_
                clear ey8
                refine x_lstore_n (lv' := [(0, .ref (V 0)), (1, .int u1), (2, .long y8), (5, .int x5)]) (pc := 158) K dL_encloses_158 rfl (by decide) rfl ?_
                refine x_iconst (v := (1)) (pc := 159) K dL_encloses_159 (by decide) ?_
                refine x_istore (lv' := [(0, .ref (V 0)), (1, .int u1), (2, .long y8), (4, .int (1 : Int32)), (5, .int x5)]) (pc := 160) K dL_encloses_160 (by decide) rfl ?_
                refine x_iinc (v := x5 + (1 : Int32)) (lv' := [(0, .ref (V 0)), (1, .int u1), (2, .long y8), (4, .int (1 : Int32)), (5, .int (x5 + (1 : Int32)))]) (pc := 162) K dL_encloses_162 (k := 4) rfl rfl (by decide) rfl ?_
                refine x_goto (pc := 165) K dL_encloses_165 (tgt := 16) (by decide) ?_
                exact ih y8 (1 : Int32) (x5 + (1 : Int32)) h k0
        obtain ⟨J9, hJ9, h⟩ := xj0_o h
        have kJ9 : J9 → xw X 0 0 117 [(0, .ref (V 0)), (1, .int u1), (2, .long x2), (4, .int x4), (5, .int x5), (6, .int y1), (7, .int y2)] [] (wX0J cI cJ cZ cA V land there near worn trial fits ways joined) := by
          intro  hj
          have h := hJ9  hj
          refine x_iconst (v := (1)) (pc := 117) K dL_encloses_117 (by decide) ?_
          refine x_goto (pc := 118) K dL_encloses_118 (tgt := 122) (by decide) ?_
          exact kJ5 (1 : Int32) h
        refine x_if_ne (pc := 60) K dL_encloses_60 (tgt := 117) (by decide) (fun c9 => ?_) (fun c9 => ?_)
        · have h := h.1 c9
          refine x_keep [true, true, true, true, true, true, true, false] rfl ?_
          exact kJ9  h
        · have h := h.2 c9
          refine x_keep [true, true, true, true, true, true, true, false] rfl ?_
          refine x_lload_n (pc := 63) K dL_encloses_63 2 rfl rfl ?_
          refine x_iload (pc := 64) K dL_encloses_64 4 rfl ?_
          refine x_bipush (v := (6)) (pc := 66) K dL_encloses_66 (by decide) ?_
          refine x_isub (pc := 68) K dL_encloses_68 ?_
          refine x_lshr (pc := 69) K dL_encloses_69 ?_
          refine x_lconst (v := (1)) (pc := 70) K dL_encloses_70 (by decide) ?_
          refine x_land (pc := 71) K dL_encloses_71 ?_
          refine x_lconst (v := (1)) (pc := 72) K dL_encloses_72 (by decide) ?_
          refine x_lcmp (pc := 73) K dL_encloses_73 ?_
          refine x_if_eq (pc := 74) K dL_encloses_74 (tgt := 117) (by decide) (fun c9 => ?_) (fun c9 => ?_)
          · have h := h.1 c9
            exact kJ9  h
          · have h := h.2 c9
            refine x_lload_n (pc := 77) K dL_encloses_77 2 rfl rfl ?_
            refine x_iload (pc := 78) K dL_encloses_78 4 rfl ?_
            refine x_bipush (v := (6)) (pc := 80) K dL_encloses_80 (by decide) ?_
            refine x_iadd (pc := 82) K dL_encloses_82 ?_
            refine x_lshr (pc := 83) K dL_encloses_83 ?_
            refine x_lconst (v := (1)) (pc := 84) K dL_encloses_84 (by decide) ?_
            refine x_land (pc := 85) K dL_encloses_85 ?_
            refine x_lconst (v := (1)) (pc := 86) K dL_encloses_86 (by decide) ?_
            refine x_lcmp (pc := 87) K dL_encloses_87 ?_
            refine x_if_eq (pc := 88) K dL_encloses_88 (tgt := 117) (by decide) (fun c9 => ?_) (fun c9 => ?_)
            · have h := h.1 c9
              exact kJ9  h
            · have h := h.2 c9
              refine x_lload_n (pc := 91) K dL_encloses_91 2 rfl rfl ?_
              refine x_iload (pc := 92) K dL_encloses_92 4 rfl ?_
              refine x_iconst (v := (1)) (pc := 94) K dL_encloses_94 (by decide) ?_
              refine x_isub (pc := 95) K dL_encloses_95 ?_
              refine x_lshr (pc := 96) K dL_encloses_96 ?_
              refine x_lconst (v := (1)) (pc := 97) K dL_encloses_97 (by decide) ?_
              refine x_land (pc := 98) K dL_encloses_98 ?_
              refine x_lconst (v := (1)) (pc := 99) K dL_encloses_99 (by decide) ?_
              refine x_lcmp (pc := 100) K dL_encloses_100 ?_
              refine x_if_eq (pc := 101) K dL_encloses_101 (tgt := 117) (by decide) (fun c9 => ?_) (fun c9 => ?_)
              · have h := h.1 c9
                exact kJ9  h
              · have h := h.2 c9
                refine x_lload_n (pc := 104) K dL_encloses_104 2 rfl rfl ?_
                refine x_iload (pc := 105) K dL_encloses_105 4 rfl ?_
                refine x_iconst (v := (1)) (pc := 107) K dL_encloses_107 (by decide) ?_
                refine x_iadd (pc := 108) K dL_encloses_108 ?_
                refine x_lshr (pc := 109) K dL_encloses_109 ?_
                refine x_lconst (v := (1)) (pc := 110) K dL_encloses_110 (by decide) ?_
                refine x_land (pc := 111) K dL_encloses_111 ?_
                refine x_lconst (v := (1)) (pc := 112) K dL_encloses_112 (by decide) ?_
                refine x_lcmp (pc := 113) K dL_encloses_113 ?_
                refine x_if_ne (pc := 114) K dL_encloses_114 (tgt := 121) (by decide) (fun c9 => ?_) (fun c9 => ?_)
                · have h := h.1 c9
                  refine x_iconst (v := (0)) (pc := 121) K dL_encloses_121 (by decide) ?_
                  exact kJ5 (0 : Int32) h
                · have h := h.2 c9
                  exact kJ9  h
      obtain ⟨J10, hJ10, h⟩ := xj0_o h
      have kJ10 : J10 → xw X 0 0 51 [(0, .ref (V 0)), (1, .int u1), (2, .long x2), (4, .int x4), (5, .int x5), (6, .int y1), (7, .int y2)] [] (wX0J cI cJ cZ cA V land there near worn trial fits ways joined) := by
        intro  hj
        have h := hJ10  hj
        refine x_iconst (v := (1)) (pc := 51) K dL_encloses_51 (by decide) ?_
        refine x_goto (pc := 52) K dL_encloses_52 (tgt := 56) (by decide) ?_
        exact kJ3 (1 : Int32) h
      refine x_if_eq (pc := 41) K dL_encloses_41 (tgt := 51) (by decide) (fun c9 => ?_) (fun c9 => ?_)
      · have h := h.1 c9
        exact kJ10  h
      · have h := h.2 c9
        refine x_iload (pc := 44) K dL_encloses_44 6 rfl ?_
        refine x_iconst (v := (5)) (pc := 46) K dL_encloses_46 (by decide) ?_
        refine x_irem (pc := 47) K (by decide) dL_encloses_47 ?_
        refine x_if_ne (pc := 48) K dL_encloses_48 (tgt := 55) (by decide) (fun c9 => ?_) (fun c9 => ?_)
        · have h := h.1 c9
          refine x_iconst (v := (0)) (pc := 55) K dL_encloses_55 (by decide) ?_
          exact kJ3 (0 : Int32) h
        · have h := h.2 c9
          exact kJ10  h
set_option maxHeartbeats 4000000 in
set_option maxRecDepth 100000 in
theorem w_L_encloses_L5 {X : xC} {l : Launch} {D : va_G} {cI cJ cZ cA : ClassId} {V : Nat → Nat} (K : xk X l rm_L_encloses D vwCl (xtys cI cJ cZ cA) cL_encloses RL wsL_encloses 10) (u1 : Int32) (land : Nat → Int64) (there : Int32) (near : Nat → Int32) (worn : Nat → Int32) (trial : Nat → Int32) (fits : Nat → Int32) (ways : Nat → Int64) (joined : Nat → Nat → Int32) (P0 : Int64 → Prop) : ∀ (n : Nat) (x2 : Int64) (x4 : Int32), q_L_encloses_L5 u1 land P0 n x2 x4 → (∀ (z0 : Int64), P0 z0 → xw X 0 0 171 [(0, .ref (V 0)), (1, .int u1), (2, .long z0)] [] (wX0J cI cJ cZ cA V land there near worn trial fits ways joined)) → xw X 0 0 5 [(0, .ref (V 0)), (1, .int u1), (2, .long x2), (4, .int x4)] [] (wX0J cI cJ cZ cA V land there near worn trial fits ways joined) := by
  intro n
  induction n with
  | zero =>
    intro x2 x4 h
    rw [q_L_encloses_L5] at h
    exact h.elim
  | succ n ih =>
    intro x2 x4 h k0
    rw [q_L_encloses_L5] at h
    refine x_iload (pc := 5) K dL_encloses_5 3 rfl ?_
    refine x_if_eq (pc := 7) K dL_encloses_7 (tgt := 171) (by decide) (fun c9 => ?_) (fun c9 => ?_)
    · have h := h.1 c9
      refine x_keep [true, true, true, false] rfl ?_
      exact k0 x2 h
    · have h := h.2 c9
      refine x_keep [true, true, true, false] rfl ?_
      refine x_iconst (v := (0)) (pc := 10) K dL_encloses_10 (by decide) ?_
      refine x_istore (lv' := [(0, .ref (V 0)), (1, .int u1), (2, .long x2), (4, .int (0 : Int32))]) (pc := 11) K dL_encloses_11 (by decide) rfl ?_
      refine x_iconst (v := (0)) (pc := 13) K dL_encloses_13 (by decide) ?_
      refine x_istore (lv' := [(0, .ref (V 0)), (1, .int u1), (2, .long x2), (4, .int (0 : Int32)), (5, .int (0 : Int32))]) (pc := 14) K dL_encloses_14 (by decide) rfl ?_
      obtain ⟨n11, h⟩ := h
      refine w_L_encloses_L16 K u1 land there near worn trial fits ways joined _ n11 x2 (0 : Int32) (0 : Int32) h (fun v12 v13 h => ?_)
      refine x_goto (pc := 168) K dL_encloses_168 (tgt := 5) (by decide) ?_
      exact ih v12 v13 h k0
set_option maxHeartbeats 4000000 in
set_option maxRecDepth 100000 in
theorem w_L_encloses_L177 {X : xC} {l : Launch} {D : va_G} {cI cJ cZ cA : ClassId} {V : Nat → Nat} (K : xk X l rm_L_encloses D vwCl (xtys cI cJ cZ cA) cL_encloses RL wsL_encloses 10) (u1 : Int32) (u2 : Int64) (land : Nat → Int64) (there : Int32) (near : Nat → Int32) (worn : Nat → Int32) (trial : Nat → Int32) (fits : Nat → Int32) (ways : Nat → Int64) (joined : Nat → Nat → Int32) (P0 : Int32 → Prop) : ∀ (n : Nat) (x5 : Int32) (x6 : Int32), q_L_encloses_L177 u1 u2 land P0 n x5 x6 → (∀ (z0 : Int32), P0 z0 → xw X 0 0 229 [(0, .ref (V 0)), (1, .int u1), (5, .int z0)] [] (wX0J cI cJ cZ cA V land there near worn trial fits ways joined)) → xw X 0 0 177 [(0, .ref (V 0)), (1, .int u1), (2, .long u2), (5, .int x5), (6, .int x6)] [] (wX0J cI cJ cZ cA V land there near worn trial fits ways joined) := by
  intro n
  induction n with
  | zero =>
    intro x5 x6 h
    rw [q_L_encloses_L177] at h
    exact h.elim
  | succ n ih =>
    intro x5 x6 h k0
    rw [q_L_encloses_L177] at h
    refine x_iload (pc := 177) K dL_encloses_177 4 rfl ?_
    refine x_bipush (v := (36)) (pc := 179) K dL_encloses_179 (by decide) ?_
    refine x_icmp_ge (pc := 181) K dL_encloses_181 (tgt := 229) (by decide) (fun c9 => ?_) (fun c9 => ?_)
    · have h := h.1 c9
      refine x_keep [true, true, false, true, false] rfl ?_
      exact k0 x5 h
    · have h := h.2 c9
      refine x_iload (pc := 184) K dL_encloses_184 3 rfl ?_
      refine x_lload_n (pc := 186) K dL_encloses_186 2 rfl rfl ?_
      refine x_iload (pc := 187) K dL_encloses_187 4 rfl ?_
      refine x_lshr (pc := 189) K dL_encloses_189 ?_
      refine x_lconst (v := (1)) (pc := 190) K dL_encloses_190 (by decide) ?_
      refine x_land (pc := 191) K dL_encloses_191 ?_
      refine x_lconst (v := (0)) (pc := 192) K dL_encloses_192 (by decide) ?_
      refine x_lcmp (pc := 193) K dL_encloses_193 ?_
      refine x_if_ne (pc := 194) K dL_encloses_194 (tgt := 219) (by decide) (fun c9 => ?_) (fun c9 => ?_)
      · have h := h.1 c9
        refine x_keep [true, true, true, false, true] rfl ?_
        refine x_iconst (v := (0)) (pc := 219) K dL_encloses_219 (by decide) ?_
        refine x_iadd (pc := 220) K dL_encloses_220 ?_
        obtain ⟨y16, ey16, h⟩ := xl_o h
        refine x_topi ey16 ?_
        clear ey16
        refine x_istore (lv' := [(0, .ref (V 0)), (1, .int u1), (2, .long u2), (5, .int y16), (6, .int x6)]) (pc := 221) K dL_encloses_221 (by decide) rfl ?_
        refine x_iinc (v := x6 + (1 : Int32)) (lv' := [(0, .ref (V 0)), (1, .int u1), (2, .long u2), (5, .int y16), (6, .int (x6 + (1 : Int32)))]) (pc := 223) K dL_encloses_223 (k := 4) rfl rfl (by decide) rfl ?_
        refine x_goto (pc := 226) K dL_encloses_226 (tgt := 177) (by decide) ?_
        exact ih y16 (x6 + (1 : Int32)) h k0
      · have h := h.2 c9
        refine x_keep [true, true, true, false, true] rfl ?_
        refine x_aload_n (pc := 197) K dL_encloses_197 0 rfl rfl ?_
        refine x_iload (pc := 198) K dL_encloses_198 3 rfl ?_
        refine x_bipush (v := (6)) (pc := 200) K dL_encloses_200 (by decide) ?_
        refine x_idiv (pc := 202) K (by decide) dL_encloses_202 ?_
        refine x_iload (pc := 203) K dL_encloses_203 3 rfl ?_
        refine x_bipush (v := (6)) (pc := 205) K dL_encloses_205 (by decide) ?_
        refine x_irem (pc := 207) K (by decide) dL_encloses_207 ?_
        refine x_callSi (pc := 208) (n := 3) K (c_L_cell l D cI cJ cZ cA V (x6 / (6 : Int32)) (x6 - x6 / (6 : Int32) * (6 : Int32)) land there near worn trial fits ways joined _ h) rfl rfl gL_encloses_L_cell rfl (by decide +kernel) ⟨Nat.le_of_ble_eq_true rfl, Nat.le_of_ble_eq_true rfl⟩ rfl (av := [.ref (V 0), .int (x6 / (6 : Int32)), .int (x6 - x6 / (6 : Int32) * (6 : Int32))]) rfl (Nat.le_of_ble_eq_true rfl) [0, 1, 2, 3, 4, 5, 6, 7, 8, 9, 10, 11, 12, 13, 14, 15, 16, 17] [] (wr := []) rfl rfl rfl rfl (by decide) dL_encloses_208 ⟨Nat.le_of_ble_eq_true rfl, Nat.le_of_ble_eq_true rfl⟩ (fun r17 u9 h => ?_)
        refine x_wsub (ws' := (wX0J cI cJ cZ cA V land there near worn trial fits ways joined)) [0, 1, 2, 3, 4, 5, 6, 7, 8, 9, 10, 11, 12, 13, 14, 15, 16, 17] rfl rfl ?_
        refine x_iload_n (pc := 211) K dL_encloses_211 1 rfl rfl ?_
        refine x_icmp_eq (pc := 212) K dL_encloses_212 (tgt := 219) (by decide) (fun c9 => ?_) (fun c9 => ?_)
        · have h := h.1 c9
          refine x_iconst (v := (0)) (pc := 219) K dL_encloses_219 (by decide) ?_
          refine x_iadd (pc := 220) K dL_encloses_220 ?_
          obtain ⟨y18, ey18, h⟩ := xl_o h
          refine x_topi ey18 ?_
          clear ey18
          refine x_istore (lv' := [(0, .ref (V 0)), (1, .int u1), (2, .long u2), (5, .int y18), (6, .int x6)]) (pc := 221) K dL_encloses_221 (by decide) rfl ?_
          refine x_iinc (v := x6 + (1 : Int32)) (lv' := [(0, .ref (V 0)), (1, .int u1), (2, .long u2), (5, .int y18), (6, .int (x6 + (1 : Int32)))]) (pc := 223) K dL_encloses_223 (k := 4) rfl rfl (by decide) rfl ?_
          refine x_goto (pc := 226) K dL_encloses_226 (tgt := 177) (by decide) ?_
          exact ih y18 (x6 + (1 : Int32)) h k0
        · have h := h.2 c9
          refine x_iconst (v := (1)) (pc := 215) K dL_encloses_215 (by decide) ?_
          refine x_goto (pc := 216) K dL_encloses_216 (tgt := 220) (by decide) ?_
          refine x_iadd (pc := 220) K dL_encloses_220 ?_
          obtain ⟨y19, ey19, h⟩ := xl_o h
          refine x_topi ey19 ?_
          clear ey19
          refine x_istore (lv' := [(0, .ref (V 0)), (1, .int u1), (2, .long u2), (5, .int y19), (6, .int x6)]) (pc := 221) K dL_encloses_221 (by decide) rfl ?_
          refine x_iinc (v := x6 + (1 : Int32)) (lv' := [(0, .ref (V 0)), (1, .int u1), (2, .long u2), (5, .int y19), (6, .int (x6 + (1 : Int32)))]) (pc := 223) K dL_encloses_223 (k := 4) rfl rfl (by decide) rfl ?_
          refine x_goto (pc := 226) K dL_encloses_226 (tgt := 177) (by decide) ?_
          exact ih y19 (x6 + (1 : Int32)) h k0
set_option maxHeartbeats 4000000 in
set_option maxRecDepth 100000 in
theorem c_L_encloses (l : Launch) (D : va_G) (cI cJ cZ cA : ClassId) (V : Nat → Nat) (p1 : Int32) (land : Nat → Int64) (there : Int32) (near : Nat → Int32) (worn : Nat → Int32) (trial : Nat → Int32) (fits : Nat → Int32) (ways : Nat → Int64) (joined : Nat → Nat → Int32) (P : Int32 → Prop) (h : q_L_encloses p1 land P) : xMz l yL_encloses wsL_encloses rm_L_encloses D vwCl (xtys cI cJ cZ cA) (wX0J cI cJ cZ cA V land there near worn trial fits ways joined) [.ref (V 0), .int p1] (σ := Unit) (fun _ => (wX0J cI cJ cZ cA V land there near worn trial fits ways joined)) (fun r _ => P r) := by
  refine xMz_of (cc := cL_encloses) (maxL := 10) (by decide) rfl (Nat.le_of_ble_eq_true rfl) ?_
  intro X K hX
  have K : xk X l rm_L_encloses D vwCl (xtys cI cJ cZ cA) cL_encloses RL wsL_encloses 10 := K
  unfold q_L_encloses at h
  refine x_lconst (v := (0)) (pc := 0) K dL_encloses_0 (by decide) ?_
  refine x_lstore_n (lv' := [(0, .ref (V 0)), (1, .int p1), (2, .long (0 : Int64))]) (pc := 1) K dL_encloses_1 rfl (by decide) rfl ?_
  refine x_iconst (v := (1)) (pc := 2) K dL_encloses_2 (by decide) ?_
  refine x_istore (lv' := [(0, .ref (V 0)), (1, .int p1), (2, .long (0 : Int64)), (4, .int (1 : Int32))]) (pc := 3) K dL_encloses_3 (by decide) rfl ?_
  obtain ⟨n14, h⟩ := h
  refine w_L_encloses_L5 K p1 land there near worn trial fits ways joined _ n14 (0 : Int64) (1 : Int32) h (fun v15 h => ?_)
  refine x_iconst (v := (0)) (pc := 171) K dL_encloses_171 (by decide) ?_
  refine x_istore (lv' := [(0, .ref (V 0)), (1, .int p1), (2, .long v15), (5, .int (0 : Int32))]) (pc := 172) K dL_encloses_172 (by decide) rfl ?_
  refine x_iconst (v := (0)) (pc := 174) K dL_encloses_174 (by decide) ?_
  refine x_istore (lv' := [(0, .ref (V 0)), (1, .int p1), (2, .long v15), (5, .int (0 : Int32)), (6, .int (0 : Int32))]) (pc := 175) K dL_encloses_175 (by decide) rfl ?_
  obtain ⟨n20, h⟩ := h
  refine w_L_encloses_L177 K p1 v15 land there near worn trial fits ways joined _ n20 (0 : Int32) (0 : Int32) h (fun v21 h => ?_)
  refine x_aload_n (pc := 229) K dL_encloses_229 0 rfl rfl ?_
  refine x_iload_n (pc := 230) K dL_encloses_230 1 rfl rfl ?_
  refine x_wcallSi (pc := 231) (n := 2) K (c0_L_enclosed l D cI cJ cZ cA V p1 land there near worn trial fits ways joined _ h) rfl rfl gL_encloses_L_enclosed rfl (by decide +kernel) ⟨Nat.le_of_ble_eq_true rfl, Nat.le_of_ble_eq_true rfl⟩ rfl (av := [.ref (V 0), .int p1]) rfl (Nat.le_of_ble_eq_true rfl) [0, 1, 2, 3, 4, 5, 6, 7, 8, 9, 10, 11, 12, 13, 14, 15, 16, 17] [] (wr := []) rfl rfl rfl rfl (by decide) dL_encloses_231 ⟨Nat.le_of_ble_eq_true rfl, Nat.le_of_ble_eq_true rfl⟩ (fun r22 u9 h => ?_)
  refine x_wsub (ws' := (wX0J cI cJ cZ cA V land there near worn trial fits ways joined)) [0, 1, 2, 3, 4, 5, 6, 7, 8, 9, 10, 11, 12, 13, 14, 15, 16, 17] rfl rfl ?_
  refine x_iload (pc := 234) K dL_encloses_234 2 rfl ?_
  refine x_icmp_ne (pc := 236) K dL_encloses_236 (tgt := 243) (by decide) (fun c9 => ?_) (fun c9 => ?_)
  · have h := h.1 c9
    refine x_keep [false, false, false] rfl ?_
    refine x_iconst (v := (0)) (pc := 243) K dL_encloses_243 (by decide) ?_
    exact hX (0 : Int32) () _ _ h.2 h.1 dL_encloses_244
  · have h := h.2 c9
    refine x_keep [false, false, false] rfl ?_
    refine x_iconst (v := (1)) (pc := 239) K dL_encloses_239 (by decide) ?_
    refine x_goto (pc := 240) K dL_encloses_240 (tgt := 244) (by decide) ?_
    exact hX (1 : Int32) () _ _ h.2 h.1 dL_encloses_244
