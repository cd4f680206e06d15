abbrev rm_J6_bitCount_0f7a4 : Room := { frames := 8, cells := 0, slots := 0, locals := 120 }
theorem kJ6_bitCount_0f7a4_0 : Cond.constant RJ6 265 (1431655765) ∈ wsJ6_bitCount_0f7a4 := by decide +kernel
theorem kJ6_bitCount_0f7a4_1 : Cond.constant RJ6 266 (858993459) ∈ wsJ6_bitCount_0f7a4 := by decide +kernel
theorem kJ6_bitCount_0f7a4_2 : Cond.constant RJ6 267 (252645135) ∈ wsJ6_bitCount_0f7a4 := by decide +kernel
def q_J6_bitCount_0f7a4 (p0 : Int32) (P : Int32 → Prop) : Prop := xl (p0 - ((xushr p0 (1 : Int32)) &&& (1431655765 : Int32))) (fun y1 => xl ((y1 &&& (858993459 : Int32)) + ((xushr y1 (2 : Int32)) &&& (858993459 : Int32))) (fun y2 => xl ((y2 + (xushr y2 (4 : Int32))) &&& (252645135 : Int32)) (fun y3 => xl (y3 + (xushr y3 (8 : Int32))) (fun y4 => xl (y4 + (xushr y4 (16 : Int32))) (fun y5 => P (y5 &&& (63 : Int32)))))))
set_option maxHeartbeats 4000000 in
set_option maxRecDepth 100000 in
theorem c_J6_bitCount_0f7a4 (l : Launch) (D : va_G) (cI cJ cZ cA : ClassId) (p0 : Int32) (P : Int32 → Prop) (h : q_J6_bitCount_0f7a4 p0 P) : xMi l yJ6_bitCount_0f7a4 wsJ6_bitCount_0f7a4 rm_J6_bitCount_0f7a4 D vwCl (xtys cI cJ cZ cA) [] [.int p0] (σ := Unit) (fun _ => []) (fun r _ => P r) := by
  refine xMi_of (cc := cJ6_bitCount_0f7a4) (maxL := 1) (by decide) rfl (Nat.le_of_ble_eq_true rfl) ?_
  intro X K hE
  have K : xk X l rm_J6_bitCount_0f7a4 D vwCl (xtys cI cJ cZ cA) cJ6_bitCount_0f7a4 RJ6 wsJ6_bitCount_0f7a4 1 := K
  unfold q_J6_bitCount_0f7a4 at h
  refine x_iload_n (pc := 0) K dJ6_bitCount_0f7a4_0 0 rfl rfl ?_
  refine x_iload_n (pc := 1) K dJ6_bitCount_0f7a4_1 0 rfl rfl ?_
  refine x_iconst (v := (1)) (pc := 2) K dJ6_bitCount_0f7a4_2 (by decide) ?_
  refine x_iushr (pc := 3) K dJ6_bitCount_0f7a4_3 ?_
  refine x_ldcw (pc := 4) (v := (1431655765)) K kJ6_bitCount_0f7a4_0 dJ6_bitCount_0f7a4_4 ?_
  refine x_iand (pc := 7) K dJ6_bitCount_0f7a4_7 ?_
  refine x_isub (pc := 8) K dJ6_bitCount_0f7a4_8 ?_
  obtain ⟨y1, ey1, h⟩ := xl_o h
  refine x_topi ey1 ?_
  clear ey1
  refine x_istore_n (lv' := [(0, .int y1)]) (pc := 9) K dJ6_bitCount_0f7a4_9 rfl (by decide) rfl ?_
  refine x_iload_n (pc := 10) K dJ6_bitCount_0f7a4_10 0 rfl rfl ?_
  refine x_ldcw (pc := 11) (v := (858993459)) K kJ6_bitCount_0f7a4_1 dJ6_bitCount_0f7a4_11 ?_
  refine x_iand (pc := 14) K dJ6_bitCount_0f7a4_14 ?_
  refine x_iload_n (pc := 15) K dJ6_bitCount_0f7a4_15 0 rfl rfl ?_
  refine x_iconst (v := (2)) (pc := 16) K dJ6_bitCount_0f7a4_16 (by decide) ?_
  refine x_iushr (pc := 17) K dJ6_bitCount_0f7a4_17 ?_
  refine x_ldcw (pc := 18) (v := (858993459)) K kJ6_bitCount_0f7a4_1 dJ6_bitCount_0f7a4_18 ?_
  refine x_iand (pc := 21) K dJ6_bitCount_0f7a4_21 ?_
  refine x_iadd (pc := 22) K dJ6_bitCount_0f7a4_22 ?_
  obtain ⟨y2, ey2, h⟩ := xl_o h
  refine x_topi ey2 ?_
  clear ey2
  refine x_istore_n (lv' := [(0, .int y2)]) (pc := 23) K dJ6_bitCount_0f7a4_23 rfl (by decide) rfl ?_
  refine x_iload_n (pc := 24) K dJ6_bitCount_0f7a4_24 0 rfl rfl ?_
  refine x_iload_n (pc := 25) K dJ6_bitCount_0f7a4_25 0 rfl rfl ?_
  refine x_iconst (v := (4)) (pc := 26) K dJ6_bitCount_0f7a4_26 (by decide) ?_
  refine x_iushr (pc := 27) K dJ6_bitCount_0f7a4_27 ?_
  refine x_iadd (pc := 28) K dJ6_bitCount_0f7a4_28 ?_
  refine x_ldcw (pc := 29) (v := (252645135)) K kJ6_bitCount_0f7a4_2 dJ6_bitCount_0f7a4_29 ?_
  refine x_iand (pc := 32) K dJ6_bitCount_0f7a4_32 ?_
  obtain ⟨y3, ey3, h⟩ := xl_o h
  refine x_topi ey3 ?_
  clear ey3
  refine x_istore_n (lv' := [(0, .int y3)]) (pc := 33) K dJ6_bitCount_0f7a4_33 rfl (by decide) rfl ?_
  refine x_iload_n (pc := 34) K dJ6_bitCount_0f7a4_34 0 rfl rfl ?_
  refine x_iload_n (pc := 35) K dJ6_bitCount_0f7a4_35 0 rfl rfl ?_
  refine x_bipush (v := (8)) (pc := 36) K dJ6_bitCount_0f7a4_36 (by decide) ?_
  refine x_iushr (pc := 38) K dJ6_bitCount_0f7a4_38 ?_
  refine x_iadd (pc := 39) K dJ6_bitCount_0f7a4_39 ?_
  obtain ⟨y4, ey4, h⟩ := xl_o h
  refine x_topi ey4 ?_
  clear ey4
  refine x_istore_n (lv' := [(0, .int y4)]) (pc := 40) K dJ6_bitCount_0f7a4_40 rfl (by decide) rfl ?_
  refine x_iload_n (pc := 41) K dJ6_bitCount_0f7a4_41 0 rfl rfl ?_
  refine x_iload_n (pc := 42) K dJ6_bitCount_0f7a4_42 0 rfl rfl ?_
  refine x_bipush (v := (16)) (pc := 43) K dJ6_bitCount_0f7a4_43 (by decide) ?_
  refine x_iushr (pc := 45) K dJ6_bitCount_0f7a4_45 ?_
  refine x_iadd (pc := 46) K dJ6_bitCount_0f7a4_46 ?_
  obtain ⟨y5, ey5, h⟩ := xl_o h
  refine x_topi ey5 ?_
  clear ey5
  refine x_istore_n (lv' := [(0, .int y5)]) (pc := 47) K dJ6_bitCount_0f7a4_47 rfl (by decide) rfl ?_
  refine x_iload_n (pc := 48) K dJ6_bitCount_0f7a4_48 0 rfl rfl ?_
  refine x_bipush (v := (63)) (pc := 49) K dJ6_bitCount_0f7a4_49 (by decide) ?_
  refine x_iand (pc := 51) K dJ6_bitCount_0f7a4_51 ?_
  exact hE (y5 &&& (63 : Int32)) () _ _ h dJ6_bitCount_0f7a4_52
abbrev rm_J13_bitCount_95d88 : Room := { frames := 8, cells := 0, slots := 0, locals := 120 }
theorem kJ13_bitCount_95d88_0 : Cond.constantLong RJ13 314 (6148914691236517205) ∈ wsJ13_bitCount_95d88 := by decide +kernel
theorem kJ13_bitCount_95d88_1 : Cond.constantLong RJ13 316 (3689348814741910323) ∈ wsJ13_bitCount_95d88 := by decide +kernel
theorem kJ13_bitCount_95d88_2 : Cond.constantLong RJ13 318 (1085102592571150095) ∈ wsJ13_bitCount_95d88 := by decide +kernel
def q_J13_bitCount_95d88 (p0 : Int64) (P : Int32 → Prop) : Prop := xl (p0 - ((xlushr p0 (1 : Int32)) &&& (6148914691236517205 : Int64))) (fun y1 => xl ((y1 &&& (3689348814741910323 : Int64)) + ((xlushr y1 (2 : Int32)) &&& (3689348814741910323 : Int64))) (fun y2 => xl ((y2 + (xlushr y2 (4 : Int32))) &&& (1085102592571150095 : Int64)) (fun y3 => xl (y3 + (xlushr y3 (8 : Int32))) (fun y4 => xl (y4 + (xlushr y4 (16 : Int32))) (fun y5 => xl (y5 + (xlushr y5 (32 : Int32))) (fun y6 => P (y6.toInt32 &&& (127 : Int32))))))))
set_option maxHeartbeats 4000000 in
set_option maxRecDepth 100000 in
theorem c_J13_bitCount_95d88 (l : Launch) (D : va_G) (cI cJ cZ cA : ClassId) (p0 : Int64) (P : Int32 → Prop) (h : q_J13_bitCount_95d88 p0 P) : xMi l yJ13_bitCount_95d88 wsJ13_bitCount_95d88 rm_J13_bitCount_95d88 D vwCl (xtys cI cJ cZ cA) [] [.long p0] (σ := Unit) (fun _ => []) (fun r _ => P r) := by
  refine xMi_of (cc := cJ13_bitCount_95d88) (maxL := 2) (by decide) rfl (Nat.le_of_ble_eq_true rfl) ?_
  intro X K hE
  have K : xk X l rm_J13_bitCount_95d88 D vwCl (xtys cI cJ cZ cA) cJ13_bitCount_95d88 RJ13 wsJ13_bitCount_95d88 2 := K
  unfold q_J13_bitCount_95d88 at h
  refine x_lload_n (pc := 0) K dJ13_bitCount_95d88_0 0 rfl rfl ?_
  refine x_lload_n (pc := 1) K dJ13_bitCount_95d88_1 0 rfl rfl ?_
  refine x_iconst (v := (1)) (pc := 2) K dJ13_bitCount_95d88_2 (by decide) ?_
  refine x_lushr (pc := 3) K dJ13_bitCount_95d88_3 ?_
  refine x_ldc2 (pc := 4) (v := (6148914691236517205)) K kJ13_bitCount_95d88_0 dJ13_bitCount_95d88_4 ?_
  refine x_land (pc := 7) K dJ13_bitCount_95d88_7 ?_
  refine x_lsub (pc := 8) K dJ13_bitCount_95d88_8 ?_
  obtain ⟨y1, ey1, h⟩ := xl_o h
  refine x_topl ey1 ?_
  clear ey1
  refine x_lstore_n (lv' := [(0, .long y1)]) (pc := 9) K dJ13_bitCount_95d88_9 rfl (by decide) rfl ?_
  refine x_lload_n (pc := 10) K dJ13_bitCount_95d88_10 0 rfl rfl ?_
  refine x_ldc2 (pc := 11) (v := (3689348814741910323)) K kJ13_bitCount_95d88_1 dJ13_bitCount_95d88_11 ?_
  refine x_land (pc := 14) K dJ13_bitCount_95d88_14 ?_
  refine x_lload_n (pc := 15) K dJ13_bitCount_95d88_15 0 rfl rfl ?_
  refine x_iconst (v := (2)) (pc := 16) K dJ13_bitCount_95d88_16 (by decide) ?_
  refine x_lushr (pc := 17) K dJ13_bitCount_95d88_17 ?_
  refine x_ldc2 (pc := 18) (v := (3689348814741910323)) K kJ13_bitCount_95d88_1 dJ13_bitCount_95d88_18 ?_
  refine x_land (pc := 21) K dJ13_bitCount_95d88_21 ?_
  refine x_ladd (pc := 22) K dJ13_bitCount_95d88_22 ?_
  obtain ⟨y2, ey2, h⟩ := xl_o h
  refine x_topl ey2 ?_
  clear ey2
  refine x_lstore_n (lv' := [(0, .long y2)]) (pc := 23) K dJ13_bitCount_95d88_23 rfl (by decide) rfl ?_
  refine x_lload_n (pc := 24) K dJ13_bitCount_95d88_24 0 rfl rfl ?_
  refine x_lload_n (pc := 25) K dJ13_bitCount_95d88_25 0 rfl rfl ?_
  refine x_iconst (v := (4)) (pc := 26) K dJ13_bitCount_95d88_26 (by decide) ?_
  refine x_lushr (pc := 27) K dJ13_bitCount_95d88_27 ?_
  refine x_ladd (pc := 28) K dJ13_bitCount_95d88_28 ?_
  refine x_ldc2 (pc := 29) (v := (1085102592571150095)) K kJ13_bitCount_95d88_2 dJ13_bitCount_95d88_29 ?_
  refine x_land (pc := 32) K dJ13_bitCount_95d88_32 ?_
  obtain ⟨y3, ey3, h⟩ := xl_o h
  refine x_topl ey3 ?_
  clear ey3
  refine x_lstore_n (lv' := [(0, .long y3)]) (pc := 33) K dJ13_bitCount_95d88_33 rfl (by decide) rfl ?_
  refine x_lload_n (pc := 34) K dJ13_bitCount_95d88_34 0 rfl rfl ?_
  refine x_lload_n (pc := 35) K dJ13_bitCount_95d88_35 0 rfl rfl ?_
  refine x_bipush (v := (8)) (pc := 36) K dJ13_bitCount_95d88_36 (by decide) ?_
  refine x_lushr (pc := 38) K dJ13_bitCount_95d88_38 ?_
  refine x_ladd (pc := 39) K dJ13_bitCount_95d88_39 ?_
  obtain ⟨y4, ey4, h⟩ := xl_o h
  refine x_topl ey4 ?_
  clear ey4
  refine x_lstore_n (lv' := [(0, .long y4)]) (pc := 40) K dJ13_bitCount_95d88_40 rfl (by decide) rfl ?_
  refine x_lload_n (pc := 41) K dJ13_bitCount_95d88_41 0 rfl rfl ?_
  refine x_lload_n (pc := 42) K dJ13_bitCount_95d88_42 0 rfl rfl ?_
  refine x_bipush (v := (16)) (pc := 43) K dJ13_bitCount_95d88_43 (by decide) ?_
  refine x_lushr (pc := 45) K dJ13_bitCount_95d88_45 ?_
  refine x_ladd (pc := 46) K dJ13_bitCount_95d88_46 ?_
  obtain ⟨y5, ey5, h⟩ := xl_o h
  refine x_topl ey5 ?_
  clear ey5
  refine x_lstore_n (lv' := [(0, .long y5)]) (pc := 47) K dJ13_bitCount_95d88_47 rfl (by decide) rfl ?_
  refine x_lload_n (pc := 48) K dJ13_bitCount_95d88_48 0 rfl rfl ?_
  refine x_lload_n (pc := 49) K dJ13_bitCount_95d88_49 0 rfl rfl ?_
  refine x_bipush (v := (32)) (pc := 50) K dJ13_bitCount_95d88_50 (by decide) ?_
  refine x_lushr (pc := 52) K dJ13_bitCount_95d88_52 ?_
  refine x_ladd (pc := 53) K dJ13_bitCount_95d88_53 ?_
  obtain ⟨y6, ey6, h⟩ := xl_o h
  refine x_topl ey6 ?_
  clear ey6
  refine x_lstore_n (lv' := [(0, .long y6)]) (pc := 54) K dJ13_bitCount_95d88_54 rfl (by decide) rfl ?_
  refine x_lload_n (pc := 55) K dJ13_bitCount_95d88_55 0 rfl rfl ?_
  refine x_l2i (pc := 56) K dJ13_bitCount_95d88_56 ?_
  refine x_bipush (v := (127)) (pc := 57) K dJ13_bitCount_95d88_57 (by decide) ?_
  refine x_iand (pc := 59) K dJ13_bitCount_95d88_59 ?_
  exact hE (y6.toInt32 &&& (127 : Int32)) () _ _ h dJ13_bitCount_95d88_60
abbrev rm_J7_fill_d0a16 : Room := { frames := 8, cells := 0, slots := 0, locals := 120 }
def q_J7_fill_d0a16_L6 (u1 : Int64) (u4 : Int32) (P0 : (Nat → Int64) → Prop) : Nat → Int32 → (Nat → Int64) → Prop
  | 0, _, _ => False
  | n + 1, x3, arr => ((u4 ≤ x3 → P0 arr) ∧ (¬ u4 ≤ x3 → xin x3 1024 = true ∧ q_J7_fill_d0a16_L6 u1 u4 P0 n (x3 + (1 : Int32)) (vp_updL arr x3.toNatClampNeg u1)))
def q_J7_fill_d0a16 (p1 : Int64) (arr : Nat → Int64) (P : (Nat → Int64) → Prop) : Prop := xl (nI 1024) (fun y1 => (∃ n3 : Nat, q_J7_fill_d0a16_L6 p1 y1 (fun (v4 : Nat → Int64) => P v4) n3 (0 : Int32) arr))
set_option maxHeartbeats 4000000 in
set_option maxRecDepth 100000 in
theorem w_J7_fill_d0a16_L6 {X : xC} {l : Launch} {D : va_G} {cI cJ cZ cA : ClassId} {a_arr : Nat} (K : xk X l rm_J7_fill_d0a16 D vwCl (xtys cI cJ cZ cA) cJ7_fill_d0a16 RJ7 wsJ7_fill_d0a16 5) (u1 : Int64) (u4 : Int32) (P0 : (Nat → Int64) → Prop) : ∀ (n : Nat) (x3 : Int32) (arr : Nat → Int64), q_J7_fill_d0a16_L6 u1 u4 P0 n x3 arr → (∀ (z0 : Nat → Int64), P0 z0 → xw X 0 0 22 [] [] [(a_arr, .inl (cJ, 1024, .inr (.inl z0)))]) → xw X 0 0 6 [(0, .ref a_arr), (1, .long u1), (3, .int x3), (4, .int u4)] [] [(a_arr, .inl (cJ, 1024, .inr (.inl arr)))] := by
  intro n
  induction n with
  | zero =>
    intro x3 arr h
    rw [q_J7_fill_d0a16_L6] at h
    exact h.elim
  | succ n ih =>
    intro x3 arr h k0
    rw [q_J7_fill_d0a16_L6] at h
    refine x_iload_n (pc := 6) K dJ7_fill_d0a16_6 2 rfl rfl ?_
    refine x_iload (pc := 7) K dJ7_fill_d0a16_7 3 rfl ?_
    refine x_icmp_ge (pc := 9) K dJ7_fill_d0a16_9 (tgt := 22) (by decide) (fun c9 => ?_) (fun c9 => ?_)
    · have h := h.1 c9
      refine x_keep [false, false, false, false] rfl ?_
      exact k0 arr h
    · have h := h.2 c9
      refine x_aload_n (pc := 12) K dJ7_fill_d0a16_12 0 rfl rfl ?_
      refine x_iload_n (pc := 13) K dJ7_fill_d0a16_13 2 rfl rfl ?_
      refine x_lload_n (pc := 14) K dJ7_fill_d0a16_14 1 rfl rfl ?_
      have g9 := h.1
      replace h := h.2
      refine x_last (ws' := [(a_arr, .inl (cJ, 1024, .inr (.inl (vp_updL arr x3.toNatClampNeg u1))))]) (pc := 15) K 0 1 rfl rfl rfl g9 dJ7_fill_d0a16_15 ?_
      clear g9
      refine x_iinc (v := x3 + (1 : Int32)) (lv' := [(0, .ref a_arr), (1, .long u1), (3, .int (x3 + (1 : Int32))), (4, .int u4)]) (pc := 16) K dJ7_fill_d0a16_16 (k := 2) rfl rfl (by decide) rfl ?_
      refine x_goto (pc := 19) K dJ7_fill_d0a16_19 (tgt := 6) (by decide) ?_
      exact ih (x3 + (1 : Int32)) (vp_updL arr x3.toNatClampNeg u1) h k0
set_option maxHeartbeats 4000000 in
set_option maxRecDepth 100000 in
theorem c_J7_fill_d0a16 (l : Launch) (D : va_G) (cI cJ cZ cA : ClassId) (a_arr : Nat) (p1 : Int64) (arr : Nat → Int64) (P : (Nat → Int64) → Prop) (h : q_J7_fill_d0a16 p1 arr P) : xMv l yJ7_fill_d0a16 wsJ7_fill_d0a16 rm_J7_fill_d0a16 D vwCl (xtys cI cJ cZ cA) [(a_arr, .inl (cJ, 1024, .inr (.inl arr)))] [.ref a_arr, .long p1] (σ := (Nat → Int64)) (fun u => [(a_arr, .inl (cJ, 1024, .inr (.inl u)))]) (fun u => P u) := by
  refine xMv_of (cc := cJ7_fill_d0a16) (maxL := 5) (by decide) rfl (Nat.le_of_ble_eq_true rfl) ?_
  intro X K hE
  have K : xk X l rm_J7_fill_d0a16 D vwCl (xtys cI cJ cZ cA) cJ7_fill_d0a16 RJ7 wsJ7_fill_d0a16 5 := K
  unfold q_J7_fill_d0a16 at h
  refine x_iconst (v := (0)) (pc := 0) K dJ7_fill_d0a16_0 (by decide) ?_
  refine x_istore_n (lv' := [(0, .ref a_arr), (1, .long p1), (3, .int (0 : Int32))]) (pc := 1) K dJ7_fill_d0a16_1 rfl (by decide) rfl ?_
  refine x_aload_n (pc := 2) K dJ7_fill_d0a16_2 0 rfl rfl ?_
  refine x_alen (pc := 3) K 0 1 rfl rfl dJ7_fill_d0a16_3 ?_
  obtain ⟨y1, ey1, h⟩ := xl_o h
  refine x_topi ey1 ?_
  clear ey1
  refine x_istore (lv' := [(0, .ref a_arr), (1, .long p1), (3, .int (0 : Int32)), (4, .int y1)]) (pc := 4) K dJ7_fill_d0a16_4 (by decide) rfl ?_
  obtain ⟨n3, h⟩ := h
  refine w_J7_fill_d0a16_L6 K p1 y1 _ n3 (0 : Int32) arr h (fun v4 h => ?_)
  exact hE v4 _ _ h dJ7_fill_d0a16_22
abbrev rm_X0_has : Room := { frames := 8, cells := 0, slots := 0, locals := 120 }
def q_X0_has (p0 : Int32) (p1 : Int32) (P : Int32 → Prop) : Prop := (((p0 &&& ((1 : Int32) <<< (p1 &&& 31))) = (0 : Int32) → (xbool (0 : Int32) ∧ P (0 : Int32))) ∧ (¬ (p0 &&& ((1 : Int32) <<< (p1 &&& 31))) = (0 : Int32) → (xbool (1 : Int32) ∧ P (1 : Int32))))
set_option maxHeartbeats 4000000 in
set_option maxRecDepth 100000 in
theorem c_X0_has (l : Launch) (D : va_G) (cI cJ cZ cA : ClassId) (p0 : Int32) (p1 : Int32) (P : Int32 → Prop) (h : q_X0_has p0 p1 P) : xMz l yX0_has wsX0_has rm_X0_has D vwCl (xtys cI cJ cZ cA) [] [.int p0, .int p1] (σ := Unit) (fun _ => []) (fun r _ => P r) := by
  refine xMz_of (cc := cX0_has) (maxL := 2) (by decide) rfl (Nat.le_of_ble_eq_true rfl) ?_
  intro X K hE
  have K : xk X l rm_X0_has D vwCl (xtys cI cJ cZ cA) cX0_has RX0 wsX0_has 2 := K
  unfold q_X0_has at h
  refine x_iload_n (pc := 0) K dX0_has_0 0 rfl rfl ?_
  refine x_iconst (v := (1)) (pc := 1) K dX0_has_1 (by decide) ?_
  refine x_iload_n (pc := 2) K dX0_has_2 1 rfl rfl ?_
  refine x_ishl (pc := 3) K dX0_has_3 ?_
  refine x_iand (pc := 4) K dX0_has_4 ?_
  refine x_if_eq (pc := 5) K dX0_has_5 (tgt := 12) (by decide) (fun c9 => ?_) (fun c9 => ?_)
  · have h := h.1 c9
    refine x_keep [false, false] rfl ?_
    refine x_iconst (v := (0)) (pc := 12) K dX0_has_12 (by decide) ?_
    exact hE (0 : Int32) () _ _ h.2 h.1 dX0_has_13
  · have h := h.2 c9
    refine x_keep [false, false] rfl ?_
    refine x_iconst (v := (1)) (pc := 8) K dX0_has_8 (by decide) ?_
    refine x_goto (pc := 9) K dX0_has_9 (tgt := 13) (by decide) ?_
    exact hE (1 : Int32) () _ _ h.2 h.1 dX0_has_13
abbrev rm_X0_above : Room := { frames := 8, cells := 0, slots := 0, locals := 120 }
def q_X0_above (p0 : Int64) (P : Int64 → Prop) : Prop := P (xlushr p0 (6 : Int32))
set_option maxHeartbeats 4000000 in
set_option maxRecDepth 100000 in
theorem c_X0_above (l : Launch) (D : va_G) (cI cJ cZ cA : ClassId) (p0 : Int64) (P : Int64 → Prop) (h : q_X0_above p0 P) : xMl l yX0_above wsX0_above rm_X0_above D vwCl (xtys cI cJ cZ cA) [] [.long p0] (σ := Unit) (fun _ => []) (fun r _ => P r) := by
  refine xMl_of (cc := cX0_above) (maxL := 2) (by decide) rfl (Nat.le_of_ble_eq_true rfl) ?_
  intro X K hE
  have K : xk X l rm_X0_above D vwCl (xtys cI cJ cZ cA) cX0_above RX0 wsX0_above 2 := K
  unfold q_X0_above at h
  refine x_lload_n (pc := 0) K dX0_above_0 0 rfl rfl ?_
  refine x_bipush (v := (6)) (pc := 1) K dX0_above_1 (by decide) ?_
  refine x_lushr (pc := 3) K dX0_above_3 ?_
  exact hE (xlushr p0 (6 : Int32)) () _ _ h dX0_above_4
abbrev rm_X0_below : Room := { frames := 8, cells := 0, slots := 0, locals := 120 }
theorem kX0_below_0 : Cond.constantLong RX0 110 (68719476735) ∈ wsX0_below := by decide +kernel
def q_X0_below (p0 : Int64) (P : Int64 → Prop) : Prop := P ((xlshl p0 (6 : Int32)) &&& (68719476735 : Int64))
set_option maxHeartbeats 4000000 in
set_option maxRecDepth 100000 in
theorem c_X0_below (l : Launch) (D : va_G) (cI cJ cZ cA : ClassId) (p0 : Int64) (P : Int64 → Prop) (h : q_X0_below p0 P) : xMl l yX0_below wsX0_below rm_X0_below D vwCl (xtys cI cJ cZ cA) [] [.long p0] (σ := Unit) (fun _ => []) (fun r _ => P r) := by
  refine xMl_of (cc := cX0_below) (maxL := 2) (by decide) rfl (Nat.le_of_ble_eq_true rfl) ?_
  intro X K hE
  have K : xk X l rm_X0_below D vwCl (xtys cI cJ cZ cA) cX0_below RX0 wsX0_below 2 := K
  unfold q_X0_below at h
  refine x_lload_n (pc := 0) K dX0_below_0 0 rfl rfl ?_
  refine x_bipush (v := (6)) (pc := 1) K dX0_below_1 (by decide) ?_
  refine x_lshl (pc := 3) K dX0_below_3 ?_
  refine x_ldc2 (pc := 4) (v := (68719476735)) K kX0_below_0 dX0_below_4 ?_
  refine x_land (pc := 7) K dX0_below_7 ?_
  exact hE ((xlshl p0 (6 : Int32)) &&& (68719476735 : Int64)) () _ _ h dX0_below_8
abbrev rm_X0_leftOf : Room := { frames := 8, cells := 0, slots := 0, locals := 120 }
theorem kX0_leftOf_0 : Cond.constantLong RX0 196 (-1090785346) ∈ wsX0_leftOf := by decide +kernel
def q_X0_leftOf (p0 : Int64) (P : Int64 → Prop) : Prop := P (xlushr (p0 &&& (-1090785346 : Int64)) (1 : Int32))
set_option maxHeartbeats 4000000 in
set_option maxRecDepth 100000 in
theorem c_X0_leftOf (l : Launch) (D : va_G) (cI cJ cZ cA : ClassId) (p0 : Int64) (P : Int64 → Prop) (h : q_X0_leftOf p0 P) : xMl l yX0_leftOf wsX0_leftOf rm_X0_leftOf D vwCl (xtys cI cJ cZ cA) [] [.long p0] (σ := Unit) (fun _ => []) (fun r _ => P r) := by
  refine xMl_of (cc := cX0_leftOf) (maxL := 2) (by decide) rfl (Nat.le_of_ble_eq_true rfl) ?_
  intro X K hE
  have K : xk X l rm_X0_leftOf D vwCl (xtys cI cJ cZ cA) cX0_leftOf RX0 wsX0_leftOf 2 := K
  unfold q_X0_leftOf at h
  refine x_lload_n (pc := 0) K dX0_leftOf_0 0 rfl rfl ?_
  refine x_ldc2 (pc := 1) (v := (-1090785346)) K kX0_leftOf_0 dX0_leftOf_1 ?_
  refine x_land (pc := 4) K dX0_leftOf_4 ?_
  refine x_iconst (v := (1)) (pc := 5) K dX0_leftOf_5 (by decide) ?_
  refine x_lushr (pc := 6) K dX0_leftOf_6 ?_
  exact hE (xlushr (p0 &&& (-1090785346 : Int64)) (1 : Int32)) () _ _ h dX0_leftOf_7
abbrev rm_X0_rightOf : Room := { frames := 8, cells := 0, slots := 0, locals := 120 }
theorem kX0_rightOf_0 : Cond.constantLong RX0 198 (-34905131041) ∈ wsX0_rightOf := by decide +kernel
def q_X0_rightOf (p0 : Int64) (P : Int64 → Prop) : Prop := P (xlshl (p0 &&& (-34905131041 : Int64)) (1 : Int32))
set_option maxHeartbeats 4000000 in
set_option maxRecDepth 100000 in
theorem c_X0_rightOf (l : Launch) (D : va_G) (cI cJ cZ cA : ClassId) (p0 : Int64) (P : Int64 → Prop) (h : q_X0_rightOf p0 P) : xMl l yX0_rightOf wsX0_rightOf rm_X0_rightOf D vwCl (xtys cI cJ cZ cA) [] [.long p0] (σ := Unit) (fun _ => []) (fun r _ => P r) := by
  refine xMl_of (cc := cX0_rightOf) (maxL := 2) (by decide) rfl (Nat.le_of_ble_eq_true rfl) ?_
  intro X K hE
  have K : xk X l rm_X0_rightOf D vwCl (xtys cI cJ cZ cA) cX0_rightOf RX0 wsX0_rightOf 2 := K
  unfold q_X0_rightOf at h
  refine x_lload_n (pc := 0) K dX0_rightOf_0 0 rfl rfl ?_
  refine x_ldc2 (pc := 1) (v := (-34905131041)) K kX0_rightOf_0 dX0_rightOf_1 ?_
  refine x_land (pc := 4) K dX0_rightOf_4 ?_
  refine x_iconst (v := (1)) (pc := 5) K dX0_rightOf_5 (by decide) ?_
  refine x_lshl (pc := 6) K dX0_rightOf_6 ?_
  exact hE (xlshl (p0 &&& (-34905131041 : Int64)) (1 : Int32)) () _ _ h dX0_rightOf_7
abbrev rm_X0_spread : Room := { frames := 9, cells := 0, slots := 0, locals := 160 }
def q_X0_spread (p0 : Int64) (P : Int64 → Prop) : Prop := q_X0_above p0 (fun (r1 : Int64) => q_X0_below p0 (fun (r2 : Int64) => q_X0_leftOf p0 (fun (r3 : Int64) => q_X0_rightOf p0 (fun (r4 : Int64) => P ((((p0 ||| r1) ||| r2) ||| r3) ||| r4)))))
set_option maxHeartbeats 4000000 in
set_option maxRecDepth 100000 in
theorem c_X0_spread (l : Launch) (D : va_G) (cI cJ cZ cA : ClassId) (p0 : Int64) (P : Int64 → Prop) (h : q_X0_spread p0 P) : xMl l yX0_spread wsX0_spread rm_X0_spread D vwCl (xtys cI cJ cZ cA) [] [.long p0] (σ := Unit) (fun _ => []) (fun r _ => P r) := by
  refine xMl_of (cc := cX0_spread) (maxL := 2) (by decide) rfl (Nat.le_of_ble_eq_true rfl) ?_
  intro X K hE
  have K : xk X l rm_X0_spread D vwCl (xtys cI cJ cZ cA) cX0_spread RX0 wsX0_spread 2 := K
  unfold q_X0_spread at h
  refine x_lload_n (pc := 0) K dX0_spread_0 0 rfl rfl ?_
  refine x_lload_n (pc := 1) K dX0_spread_1 0 rfl rfl ?_
  refine x_pcallSl (pc := 2) (n := 1) K (c_X0_above l D cI cJ cZ cA p0 _ h) rfl rfl gX0_spread_X0_above rfl (by decide +kernel) ⟨Nat.le_of_ble_eq_true rfl, Nat.le_of_ble_eq_true rfl⟩ rfl (av := [.long p0]) rfl (Nat.le_of_ble_eq_true rfl) dX0_spread_2 ⟨Nat.le_of_ble_eq_true rfl, Nat.le_of_ble_eq_true rfl⟩ (fun r1 u9 h => ?_)
  refine x_lor (pc := 5) K dX0_spread_5 ?_
  refine x_lload_n (pc := 6) K dX0_spread_6 0 rfl rfl ?_
  refine x_pcallSl (pc := 7) (n := 1) K (c_X0_below l D cI cJ cZ cA p0 _ h) rfl rfl gX0_spread_X0_below rfl (by decide +kernel) ⟨Nat.le_of_ble_eq_true rfl, Nat.le_of_ble_eq_true rfl⟩ rfl (av := [.long p0]) rfl (Nat.le_of_ble_eq_true rfl) dX0_spread_7 ⟨Nat.le_of_ble_eq_true rfl, Nat.le_of_ble_eq_true rfl⟩ (fun r2 u9 h => ?_)
  refine x_lor (pc := 10) K dX0_spread_10 ?_
  refine x_lload_n (pc := 11) K dX0_spread_11 0 rfl rfl ?_
  refine x_pcallSl (pc := 12) (n := 1) K (c_X0_leftOf l D cI cJ cZ cA p0 _ h) rfl rfl gX0_spread_X0_leftOf rfl (by decide +kernel) ⟨Nat.le_of_ble_eq_true rfl, Nat.le_of_ble_eq_true rfl⟩ rfl (av := [.long p0]) rfl (Nat.le_of_ble_eq_true rfl) dX0_spread_12 ⟨Nat.le_of_ble_eq_true rfl, Nat.le_of_ble_eq_true rfl⟩ (fun r3 u9 h => ?_)
  refine x_lor (pc := 15) K dX0_spread_15 ?_
  refine x_lload_n (pc := 16) K dX0_spread_16 0 rfl rfl ?_
  refine x_pcallSl (pc := 17) (n := 1) K (c_X0_rightOf l D cI cJ cZ cA p0 _ h) rfl rfl gX0_spread_X0_rightOf rfl (by decide +kernel) ⟨Nat.le_of_ble_eq_true rfl, Nat.le_of_ble_eq_true rfl⟩ rfl (av := [.long p0]) rfl (Nat.le_of_ble_eq_true rfl) dX0_spread_17 ⟨Nat.le_of_ble_eq_true rfl, Nat.le_of_ble_eq_true rfl⟩ (fun r4 u9 h => ?_)
  refine x_lor (pc := 20) K dX0_spread_20 ?_
  exact hE ((((p0 ||| r1) ||| r2) ||| r3) ||| r4) () _ _ h dX0_spread_21
abbrev rm_X0_reach : Room := { frames := 10, cells := 0, slots := 0, locals := 200 }
def q_X0_reach_L6 (u2 : Int64) (P0 : Int64 → Prop) (P1 : Int64 → Prop) : Nat → Int64 → Int32 → Prop
  | 0, _, _ => False
  | n + 1, x4, x6 => (((36 : Int32) ≤ x6 → P0 x4) ∧ (¬ (36 : Int32) ≤ x6 → q_X0_spread x4 (fun (r1 : Int64) => xl (r1 &&& u2) (fun y2 => ((¬ (lg_cmp y2 x4) = (0 : Int32) → q_X0_reach_L6 u2 P0 P1 n y2 (x6 + (1 : Int32))) ∧ ((lg_cmp y2 x4) = (0 : Int32) → P1 x4))))))
def q_X0_reach (p0 : Int64) (p2 : Int64) (P : Int64 → Prop) : Prop := (∃ n3 : Nat, q_X0_reach_L6 p2 (fun (v4 : Int64) => P v4) (fun (v5 : Int64) => P v5) n3 p0 (0 : Int32))
set_option maxHeartbeats 4000000 in
set_option maxRecDepth 100000 in
theorem w_X0_reach_L6 {X : xC} {l : Launch} {D : va_G} {cI cJ cZ cA : ClassId} (K : xk X l rm_X0_reach D vwCl (xtys cI cJ cZ cA) cX0_reach RX0 wsX0_reach 9) (u2 : Int64) (P0 : Int64 → Prop) (P1 : Int64 → Prop) : ∀ (n : Nat) (x4 : Int64) (x6 : Int32), q_X0_reach_L6 u2 P0 P1 n x4 x6 → (∀ (z0 : Int64), P0 z0 → xw X 0 0 43 [(4, .long z0)] [] []) → (∀ (z0 : Int64), P1 z0 → xw X 0 0 30 [(4, .long z0)] [] []) → xw X 0 0 6 [(2, .long u2), (4, .long x4), (6, .int x6)] [] [] := by
  intro n
  induction n with
  | zero =>
    intro x4 x6 h
    rw [q_X0_reach_L6] at h
    exact h.elim
  | succ n ih =>
    intro x4 x6 h k0 k1
    rw [q_X0_reach_L6] at h
    refine x_iload (pc := 6) K dX0_reach_6 2 rfl ?_
    refine x_bipush (v := (36)) (pc := 8) K dX0_reach_8 (by decide) ?_
    refine x_icmp_ge (pc := 10) K dX0_reach_10 (tgt := 43) (by decide) (fun c9 => ?_) (fun c9 => ?_)
    · have h := h.1 c9
      refine x_keep [false, true, false] rfl ?_
      exact k0 x4 h
    · have h := h.2 c9
      refine x_lload (pc := 13) K dX0_reach_13 1 rfl ?_
      refine x_pcallSl (pc := 15) (n := 1) K (c_X0_spread l D cI cJ cZ cA x4 _ h) rfl rfl gX0_reach_X0_spread rfl (by decide +kernel) ⟨Nat.le_of_ble_eq_true rfl, Nat.le_of_ble_eq_true rfl⟩ rfl (av := [.long x4]) rfl (Nat.le_of_ble_eq_true rfl) dX0_reach_15 ⟨Nat.le_of_ble_eq_true rfl, Nat.le_of_ble_eq_true rfl⟩ (fun r1 u9 h => ?_)
      refine x_lload_n (pc := 18) K dX0_reach_18 0 rfl rfl ?_
      refine x_land (pc := 19) K dX0_reach_19 ?_
      obtain ⟨y2, ey2, h⟩ := xl_o h
      refine x_topl ey2 ?_
      clear ey2
      refine x_lstore (lv' := [(2, .long u2), (4, .long x4), (6, .int x6), (7, .long y2)]) (pc := 20) K dX0_reach_20 (by decide) rfl ?_
      refine x_lload (pc := 22) K dX0_reach_22 3 rfl ?_
      refine x_lload (pc := 24) K dX0_reach_24 1 rfl ?_
      refine x_lcmp (pc := 26) K dX0_reach_26 ?_
      refine x_if_ne (pc := 27) K dX0_reach_27 (tgt := 33) (by decide) (fun c9 => ?_) (fun c9 => ?_)
      · have h := h.1 c9
        refine x_keep [true, false, true, true] rfl ?_
        refine x_lload (pc := 33) K dX0_reach_33 2 rfl ?_
        refine x_lstore (lv' := [(2, .long u2), (4, .long y2), (6, .int x6), (7, .long y2)]) (pc := 35) K dX0_reach_35 (by decide) rfl ?_
        refine x_iinc (v := x6 + (1 : Int32)) (lv' := [(2, .long u2), (4, .long y2), (6, .int (x6 + (1 : Int32))), (7, .long y2)]) (pc := 37) K dX0_reach_37 (k := 2) rfl rfl (by decide) rfl ?_
        refine x_goto (pc := 40) K dX0_reach_40 (tgt := 6) (by decide) ?_
        refine x_keep [true, true, true, false] rfl ?_
        exact ih y2 (x6 + (1 : Int32)) h k0 k1
      · have h := h.2 c9
        refine x_keep [false, true, false, false] rfl ?_
        exact k1 x4 h
set_option maxHeartbeats 4000000 in
set_option maxRecDepth 100000 in
theorem c_X0_reach (l : Launch) (D : va_G) (cI cJ cZ cA : ClassId) (p0 : Int64) (p2 : Int64) (P : Int64 → Prop) (h : q_X0_reach p0 p2 P) : xMl l yX0_reach wsX0_reach rm_X0_reach D vwCl (xtys cI cJ cZ cA) [] [.long p0, .long p2] (σ := Unit) (fun _ => []) (fun r _ => P r) := by
  refine xMl_of (cc := cX0_reach) (maxL := 9) (by decide) rfl (Nat.le_of_ble_eq_true rfl) ?_
  intro X K hE
  have K : xk X l rm_X0_reach D vwCl (xtys cI cJ cZ cA) cX0_reach RX0 wsX0_reach 9 := K
  unfold q_X0_reach at h
  refine x_lload_n (pc := 0) K dX0_reach_0 0 rfl rfl ?_
  refine x_lstore (lv' := [(0, .long p0), (2, .long p2), (4, .long p0)]) (pc := 1) K dX0_reach_1 (by decide) rfl ?_
  refine x_iconst (v := (0)) (pc := 3) K dX0_reach_3 (by decide) ?_
  refine x_istore (lv' := [(0, .long p0), (2, .long p2), (4, .long p0), (6, .int (0 : Int32))]) (pc := 4) K dX0_reach_4 (by decide) rfl ?_
  refine x_keep [false, true, true, true] rfl ?_
  obtain ⟨n3, h⟩ := h
  refine w_X0_reach_L6 K p2 _ _ n3 p0 (0 : Int32) h (fun v4 h => ?_) (fun v5 h => ?_)
  · refine x_lload (pc := 43) K dX0_reach_43 0 rfl ?_
    exact hE v4 () _ _ h dX0_reach_45
  · refine x_lload (pc := 30) K dX0_reach_30 0 rfl ?_
    exact hE v5 () _ _ h dX0_reach_32
abbrev rm_X0_pieceIn : Room := { frames := 11, cells := 0, slots := 0, locals := 240 }
def q_X0_pieceIn (p0 : Int64) (P : Int64 → Prop) : Prop := q_X0_reach (p0 &&& (-p0)) p0 (fun (r1 : Int64) => P r1)
set_option maxHeartbeats 4000000 in
set_option maxRecDepth 100000 in
theorem c_X0_pieceIn (l : Launch) (D : va_G) (cI cJ cZ cA : ClassId) (p0 : Int64) (P : Int64 → Prop) (h : q_X0_pieceIn p0 P) : xMl l yX0_pieceIn wsX0_pieceIn rm_X0_pieceIn D vwCl (xtys cI cJ cZ cA) [] [.long p0] (σ := Unit) (fun _ => []) (fun r _ => P r) := by
  refine xMl_of (cc := cX0_pieceIn) (maxL := 2) (by decide) rfl (Nat.le_of_ble_eq_true rfl) ?_
  intro X K hE
  have K : xk X l rm_X0_pieceIn D vwCl (xtys cI cJ cZ cA) cX0_pieceIn RX0 wsX0_pieceIn 2 := K
  unfold q_X0_pieceIn at h
  refine x_lload_n (pc := 0) K dX0_pieceIn_0 0 rfl rfl ?_
  refine x_lload_n (pc := 1) K dX0_pieceIn_1 0 rfl rfl ?_
  refine x_lneg (pc := 2) K dX0_pieceIn_2 ?_
  refine x_land (pc := 3) K dX0_pieceIn_3 ?_
  refine x_lload_n (pc := 4) K dX0_pieceIn_4 0 rfl rfl ?_
  refine x_pcallSl (pc := 5) (n := 2) K (c_X0_reach l D cI cJ cZ cA (p0 &&& (-p0)) p0 _ h) rfl rfl gX0_pieceIn_X0_reach rfl (by decide +kernel) ⟨Nat.le_of_ble_eq_true rfl, Nat.le_of_ble_eq_true rfl⟩ rfl (av := [.long (p0 &&& (-p0)), .long p0]) rfl (Nat.le_of_ble_eq_true rfl) dX0_pieceIn_5 ⟨Nat.le_of_ble_eq_true rfl, Nat.le_of_ble_eq_true rfl⟩ (fun r1 u9 h => ?_)
  exact hE r1 () _ _ h dX0_pieceIn_8
abbrev rm_X0_countPieces : Room := { frames := 12, cells := 0, slots := 0, locals := 280 }
theorem kX0_countPieces_0 : Cond.constantLong RX0 70 (-1) ∈ wsX0_countPieces := by decide +kernel
def q_X0_countPieces_L5 (P0 : Int32 → Prop) : Nat → Int64 → Int32 → Prop
  | 0, _, _ => False
  | n + 1, x2, x4 => (((36 : Int32) ≤ x4 → P0 x4) ∧ (¬ (36 : Int32) ≤ x4 → (((lg_cmp x2 (0 : Int64)) = (0 : Int32) → P0 x4) ∧ (¬ (lg_cmp x2 (0 : Int64)) = (0 : Int32) → q_X0_pieceIn x2 (fun (r1 : Int64) => xl (x2 &&& (r1 ^^^ (-1 : Int64))) (fun y2 => q_X0_countPieces_L5 P0 n y2 (x4 + (1 : Int32))))))))
def q_X0_countPieces (p0 : Int64) (P : Int32 → Prop) : Prop := (∃ n3 : Nat, q_X0_countPieces_L5 (fun (v4 : Int32) => P v4) n3 p0 (0 : Int32))
set_option maxHeartbeats 4000000 in
set_option maxRecDepth 100000 in
theorem w_X0_countPieces_L5 {X : xC} {l : Launch} {D : va_G} {cI cJ cZ cA : ClassId} (K : xk X l rm_X0_countPieces D vwCl (xtys cI cJ cZ cA) cX0_countPieces RX0 wsX0_countPieces 5) (P0 : Int32 → Prop) : ∀ (n : Nat) (x2 : Int64) (x4 : Int32), q_X0_countPieces_L5 P0 n x2 x4 → (∀ (z0 : Int32), P0 z0 → xw X 0 0 35 [(4, .int z0)] [] []) → xw X 0 0 5 [(2, .long x2), (4, .int x4)] [] [] := by
  intro n
  induction n with
  | zero =>
    intro x2 x4 h
    rw [q_X0_countPieces_L5] at h
    exact h.elim
  | succ n ih =>
    intro x2 x4 h k0
    rw [q_X0_countPieces_L5] at h
    refine x_iload (pc := 5) K dX0_countPieces_5 1 rfl ?_
    refine x_bipush (v := (36)) (pc := 7) K dX0_countPieces_7 (by decide) ?_
    refine x_icmp_ge (pc := 9) K dX0_countPieces_9 (tgt := 35) (by decide) (fun c9 => ?_) (fun c9 => ?_)
    · have h := h.1 c9
      refine x_keep [false, true] rfl ?_
      exact k0 x4 h
    · have h := h.2 c9
      refine x_lload_n (pc := 12) K dX0_countPieces_12 0 rfl rfl ?_
      refine x_lconst (v := (0)) (pc := 13) K dX0_countPieces_13 (by decide) ?_
      refine x_lcmp (pc := 14) K dX0_countPieces_14 ?_
      refine x_if_eq (pc := 15) K dX0_countPieces_15 (tgt := 35) (by decide) (fun c9 => ?_) (fun c9 => ?_)
      · have h := h.1 c9
        refine x_keep [false, true] rfl ?_
        exact k0 x4 h
      · have h := h.2 c9
        refine x_lload_n (pc := 18) K dX0_countPieces_18 0 rfl rfl ?_
        refine x_lload_n (pc := 19) K dX0_countPieces_19 0 rfl rfl ?_
        refine x_pcallSl (pc := 20) (n := 1) K (c_X0_pieceIn l D cI cJ cZ cA x2 _ h) rfl rfl gX0_countPieces_X0_pieceIn rfl (by decide +kernel) ⟨Nat.le_of_ble_eq_true rfl, Nat.le_of_ble_eq_true rfl⟩ rfl (av := [.long x2]) rfl (Nat.le_of_ble_eq_true rfl) dX0_countPieces_20 ⟨Nat.le_of_ble_eq_true rfl, Nat.le_of_ble_eq_true rfl⟩ (fun r1 u9 h => ?_)
        refine x_ldc2 (pc := 23) (v := (-1)) K kX0_countPieces_0 dX0_countPieces_23 ?_
        refine x_lxor (pc := 26) K dX0_countPieces_26 ?_
        refine x_land (pc := 27) K dX0_countPieces_27 ?_
        obtain ⟨y2, ey2, h⟩ := xl_o h
        refine x_topl ey2 ?_
        clear ey2
        refine x_lstore_n (lv' := [(2, .long y2), (4, .int x4)]) (pc := 28) K dX0_countPieces_28 rfl (by decide) rfl ?_
        refine x_iinc (v := x4 + (1 : Int32)) (lv' := [(2, .long y2), (4, .int (x4 + (1 : Int32)))]) (pc := 29) K dX0_countPieces_29 (k := 1) rfl rfl (by decide) rfl ?_
        refine x_goto (pc := 32) K dX0_countPieces_32 (tgt := 5) (by decide) ?_
        exact ih y2 (x4 + (1 : Int32)) h k0
set_option maxHeartbeats 4000000 in
set_option maxRecDepth 100000 in
theorem c_X0_countPieces (l : Launch) (D : va_G) (cI cJ cZ cA : ClassId) (p0 : Int64) (P : Int32 → Prop) (h : q_X0_countPieces p0 P) : xMi l yX0_countPieces wsX0_countPieces rm_X0_countPieces D vwCl (xtys cI cJ cZ cA) [] [.long p0] (σ := Unit) (fun _ => []) (fun r _ => P r) := by
  refine xMi_of (cc := cX0_countPieces) (maxL := 5) (by decide) rfl (Nat.le_of_ble_eq_true rfl) ?_
  intro X K hE
  have K : xk X l rm_X0_countPieces D vwCl (xtys cI cJ cZ cA) cX0_countPieces RX0 wsX0_countPieces 5 := K
  unfold q_X0_countPieces at h
  refine x_lload_n (pc := 0) K dX0_countPieces_0 0 rfl rfl ?_
  refine x_lstore_n (lv' := [(0, .long p0), (2, .long p0)]) (pc := 1) K dX0_countPieces_1 rfl (by decide) rfl ?_
  refine x_iconst (v := (0)) (pc := 2) K dX0_countPieces_2 (by decide) ?_
  refine x_istore (lv' := [(0, .long p0), (2, .long p0), (4, .int (0 : Int32))]) (pc := 3) K dX0_countPieces_3 (by decide) rfl ?_
  refine x_keep [false, true, true] rfl ?_
  obtain ⟨n3, h⟩ := h
  refine w_X0_countPieces_L5 K _ n3 p0 (0 : Int32) h (fun v4 h => ?_)
  refine x_iload (pc := 35) K dX0_countPieces_35 0 rfl ?_
  exact hE v4 () _ _ h dX0_countPieces_37
abbrev rm_X0_block : Room := { frames := 8, cells := 0, slots := 0, locals := 120 }
def q_X0_block_L15 (u3 : Int32) (u6 : Int32) (P0 : Int64 → Prop) : Nat → Int64 → Int32 → Prop
  | 0, _, _ => False
  | n + 1, x4, x7 => ((u3 < x7 → P0 x4) ∧ (¬ u3 < x7 → xl (x4 ||| (xlshl (1 : Int64) ((u6 * (6 : Int32)) + x7))) (fun y1 => q_X0_block_L15 u3 u6 P0 n y1 (x7 + (1 : Int32)))))
def q_X0_block_L6 (u1 : Int32) (u2 : Int32) (u3 : Int32) (P0 : Int64 → Prop) : Nat → Int64 → Int32 → Prop
  | 0, _, _ => False
  | n + 1, x4, x6 => ((u2 < x6 → P0 x4) ∧ (¬ u2 < x6 → (∃ n2 : Nat, q_X0_block_L15 u3 x6 (fun (v3 : Int64) => q_X0_block_L6 u1 u2 u3 P0 n v3 (x6 + (1 : Int32))) n2 x4 u1)))
def q_X0_block (p0 : Int32) (p1 : Int32) (p2 : Int32) (p3 : Int32) (P : Int64 → Prop) : Prop := (∃ n4 : Nat, q_X0_block_L6 p1 p2 p3 (fun (v5 : Int64) => P v5) n4 (0 : Int64) p0)
set_option maxHeartbeats 4000000 in
set_option maxRecDepth 100000 in
theorem w_X0_block_L15 {X : xC} {l : Launch} {D : va_G} {cI cJ cZ cA : ClassId} (K : xk X l rm_X0_block D vwCl (xtys cI cJ cZ cA) cX0_block RX0 wsX0_block 8) (u1 : Int32) (u2 : Int32) (u3 : Int32) (u6 : Int32) (P0 : Int64 → Prop) : ∀ (n : Nat) (x4 : Int64) (x7 : Int32), q_X0_block_L15 u3 u6 P0 n x4 x7 → (∀ (z0 : Int64), P0 z0 → xw X 0 0 42 [(1, .int u1), (2, .int u2), (3, .int u3), (4, .long z0), (6, .int u6)] [] []) → xw X 0 0 15 [(1, .int u1), (2, .int u2), (3, .int u3), (4, .long x4), (6, .int u6), (7, .int x7)] [] [] := by
  intro n
  induction n with
  | zero =>
    intro x4 x7 h
    rw [q_X0_block_L15] at h
    exact h.elim
  | succ n ih =>
    intro x4 x7 h k0
    rw [q_X0_block_L15] at h
    refine x_iload (pc := 15) K dX0_block_15 5 rfl ?_
    refine x_iload_n (pc := 17) K dX0_block_17 2 rfl rfl ?_
    refine x_icmp_gt (pc := 18) K dX0_block_18 (tgt := 42) (by decide) (fun c9 => ?_) (fun c9 => ?_)
    · have h := h.1 c9
      refine x_keep [true, true, true, true, true, false] rfl ?_
      exact k0 x4 h
    · have h := h.2 c9
      refine x_lload (pc := 21) K dX0_block_21 3 rfl ?_
      refine x_lconst (v := (1)) (pc := 23) K dX0_block_23 (by decide) ?_
      refine x_iload (pc := 24) K dX0_block_24 4 rfl ?_
      refine x_bipush (v := (6)) (pc := 26) K dX0_block_26 (by decide) ?_
      refine x_imul (pc := 28) K dX0_block_28 ?_
      refine x_iload (pc := 29) K dX0_block_29 5 rfl ?_
      refine x_iadd (pc := 31) K dX0_block_31 ?_
      refine x_lshl (pc := 32) K dX0_block_32 ?_
      refine x_lor (pc := 33) K dX0_block_33 ?_
      obtain ⟨y1, ey1, h⟩ := xl_o h
      refine x_topl ey1 ?_
      clear ey1
      refine x_lstore (lv' := [(1, .int u1), (2, .int u2), (3, .int u3), (4, .long y1), (6, .int u6), (7, .int x7)]) (pc := 34) K dX0_block_34 (by decide) rfl ?_
      refine x_iinc (v := x7 + (1 : Int32)) (lv' := [(1, .int u1), (2, .int u2), (3, .int u3), (4, .long y1), (6, .int u6), (7, .int (x7 + (1 : Int32)))]) (pc := 36) K dX0_block_36 (k := 5) rfl rfl (by decide) rfl ?_
      refine x_goto (pc := 39) K dX0_block_39 (tgt := 15) (by decide) ?_
      exact ih y1 (x7 + (1 : Int32)) h k0
set_option maxHeartbeats 4000000 in
set_option maxRecDepth 100000 in
theorem w_X0_block_L6 {X : xC} {l : Launch} {D : va_G} {cI cJ cZ cA : ClassId} (K : xk X l rm_X0_block D vwCl (xtys cI cJ cZ cA) cX0_block RX0 wsX0_block 8) (u1 : Int32) (u2 : Int32) (u3 : Int32) (P0 : Int64 → Prop) : ∀ (n : Nat) (x4 : Int64) (x6 : Int32), q_X0_block_L6 u1 u2 u3 P0 n x4 x6 → (∀ (z0 : Int64), P0 z0 → xw X 0 0 48 [(4, .long z0)] [] []) → xw X 0 0 6 [(1, .int u1), (2, .int u2), (3, .int u3), (4, .long x4), (6, .int x6)] [] [] := by
  intro n
  induction n with
  | zero =>
    intro x4 x6 h
    rw [q_X0_block_L6] at h
    exact h.elim
  | succ n ih =>
    intro x4 x6 h k0
    rw [q_X0_block_L6] at h
    refine x_iload (pc := 6) K dX0_block_6 4 rfl ?_
    refine x_iload_n (pc := 8) K dX0_block_8 1 rfl rfl ?_
    refine x_icmp_gt (pc := 9) K dX0_block_9 (tgt := 48) (by decide) (fun c9 => ?_) (fun c9 => ?_)
    · have h := h.1 c9
      refine x_keep [false, false, false, true, false] rfl ?_
      exact k0 x4 h
    · have h := h.2 c9
      refine x_iload_n (pc := 12) K dX0_block_12 0 rfl rfl ?_
      refine x_istore (lv' := [(1, .int u1), (2, .int u2), (3, .int u3), (4, .long x4), (6, .int x6), (7, .int u1)]) (pc := 13) K dX0_block_13 (by decide) rfl ?_
      obtain ⟨n2, h⟩ := h
      refine w_X0_block_L15 K u1 u2 u3 x6 _ n2 x4 u1 h (fun v3 h => ?_)
      refine x_iinc (v := x6 + (1 : Int32)) (lv' := [(1, .int u1), (2, .int u2), (3, .int u3), (4, .long v3), (6, .int (x6 + (1 : Int32)))]) (pc := 42) K dX0_block_42 (k := 4) rfl rfl (by decide) rfl ?_
      refine x_goto (pc := 45) K dX0_block_45 (tgt := 6) (by decide) ?_
      exact ih v3 (x6 + (1 : Int32)) h k0
set_option maxHeartbeats 4000000 in
set_option maxRecDepth 100000 in
theorem c_X0_block (l : Launch) (D : va_G) (cI cJ cZ cA : ClassId) (p0 : Int32) (p1 : Int32) (p2 : Int32) (p3 : Int32) (P : Int64 → Prop) (h : q_X0_block p0 p1 p2 p3 P) : xMl l yX0_block wsX0_block rm_X0_block D vwCl (xtys cI cJ cZ cA) [] [.int p0, .int p1, .int p2, .int p3] (σ := Unit) (fun _ => []) (fun r _ => P r) := by
  refine xMl_of (cc := cX0_block) (maxL := 8) (by decide) rfl (Nat.le_of_ble_eq_true rfl) ?_
  intro X K hE
  have K : xk X l rm_X0_block D vwCl (xtys cI cJ cZ cA) cX0_block RX0 wsX0_block 8 := K
  unfold q_X0_block at h
  refine x_lconst (v := (0)) (pc := 0) K dX0_block_0 (by decide) ?_
  refine x_lstore (lv' := [(0, .int p0), (1, .int p1), (2, .int p2), (3, .int p3), (4, .long (0 : Int64))]) (pc := 1) K dX0_block_1 (by decide) rfl ?_
  refine x_iload_n (pc := 3) K dX0_block_3 0 rfl rfl ?_
  refine x_istore (lv' := [(0, .int p0), (1, .int p1), (2, .int p2), (3, .int p3), (4, .long (0 : Int64)), (6, .int p0)]) (pc := 4) K dX0_block_4 (by decide) rfl ?_
  refine x_keep [false, true, true, true, true, true] rfl ?_
  obtain ⟨n4, h⟩ := h
  refine w_X0_block_L6 K p1 p2 p3 _ n4 (0 : Int64) p0 h (fun v5 h => ?_)
  refine x_lload (pc := 48) K dX0_block_48 0 rfl ?_
  exact hE v5 () _ _ h dX0_block_50
abbrev rm_X0_wearing : Room := { frames := 8, cells := 0, slots := 0, locals := 120 }
theorem inX0_wearing : ∀ w ∈ u_ws RX0 TX0 8, w ∈ wsX0_wearing := by decide +kernel
theorem kX0_wearing_0 : Cond.fieldLink RX0 21 "FourTints" "worn" "[I" ∈ wsX0_wearing := by decide +kernel
def q_X0_wearing_L4 (u1 : Int32) (worn : Nat → Int32) (P0 : Int32 → Prop) : Nat → Int32 → Int32 → Prop
  | 0, _, _ => False
  | n + 1, x2, x3 => (((10 : Int32) ≤ x3 → P0 x2) ∧ (¬ (10 : Int32) ≤ x3 → xin x3 10 = true ∧ ((¬ (worn x3.toNatClampNeg) = u1 → q_X0_wearing_L4 u1 worn P0 n x2 (x3 + (1 : Int32))) ∧ ((worn x3.toNatClampNeg) = u1 → xl (x2 ||| ((1 : Int32) <<< (x3 &&& 31))) (fun y1 => q_X0_wearing_L4 u1 worn P0 n y1 (x3 + (1 : Int32)))))))
def q_X0_wearing (p1 : Int32) (worn : Nat → Int32) (P : Int32 → Prop) : Prop := (∃ n2 : Nat, q_X0_wearing_L4 p1 worn (fun (v3 : Int32) => P v3) n2 (0 : Int32) (0 : Int32))
set_option maxHeartbeats 4000000 in
set_option maxRecDepth 100000 in
theorem w_X0_wearing_L4 {X : xC} {l : Launch} {D : va_G} {cI cJ cZ cA : ClassId} {V : Nat → Nat} (K : xk X l rm_X0_wearing D vwCl (xtys cI cJ cZ cA) cX0_wearing RX0 wsX0_wearing 4) (u1 : Int32) (land : Nat → Int64) (there : Int32) (near : Nat → Int32) (worn : Nat → Int32) (trial : Nat → Int32) (fits : Nat → Int32) (ways : Nat → Int64) (P0 : Int32 → Prop) : ∀ (n : Nat) (x2 : Int32) (x3 : Int32), q_X0_wearing_L4 u1 worn P0 n x2 x3 → (∀ (z0 : Int32), P0 z0 → xw X 0 0 32 [(2, .int z0)] [] (wX0 cI cJ cZ cA V land there near worn trial fits ways)) → xw X 0 0 4 [(0, .ref (V 0)), (1, .int u1), (2, .int x2), (3, .int x3)] [] (wX0 cI cJ cZ cA V land there near worn trial fits ways) := by
  intro n
  induction n with
  | zero =>
    intro x2 x3 h
    rw [q_X0_wearing_L4] at h
    exact h.elim
  | succ n ih =>
    intro x2 x3 h k0
    rw [q_X0_wearing_L4] at h
    refine x_iload_n (pc := 4) K dX0_wearing_4 3 rfl rfl ?_
    refine x_bipush (v := (10)) (pc := 5) K dX0_wearing_5 (by decide) ?_
    refine x_icmp_ge (pc := 7) K dX0_wearing_7 (tgt := 32) (by decide) (fun c9 => ?_) (fun c9 => ?_)
    · have h := h.1 c9
      refine x_keep [false, false, true, false] rfl ?_
      exact k0 x2 h
    · have h := h.2 c9
      refine x_aload_n (pc := 10) K dX0_wearing_10 0 rfl rfl ?_
      refine x_get (pc := 11) (ci := 0) (C := RX0) (T := TX0) (N := 8) K (inX0_wearing) 0 rfl rfl 3 (by decide) kX0_wearing_0 rfl rfl dX0_wearing_11 ?_
      refine x_iload_n (pc := 14) K dX0_wearing_14 3 rfl rfl ?_
      have g9 := h.1
      replace h := h.2
      refine x_iald (pc := 15) K 3 0 rfl rfl g9 dX0_wearing_15 ?_
      clear g9
      refine x_iload_n (pc := 16) K dX0_wearing_16 1 rfl rfl ?_
      refine x_icmp_ne (pc := 17) K dX0_wearing_17 (tgt := 26) (by decide) (fun c9 => ?_) (fun c9 => ?_)
      · have h := h.1 c9
        refine x_iinc (v := x3 + (1 : Int32)) (lv' := [(0, .ref (V 0)), (1, .int u1), (2, .int x2), (3, .int (x3 + (1 : Int32)))]) (pc := 26) K dX0_wearing_26 (k := 3) rfl rfl (by decide) rfl ?_
        refine x_goto (pc := 29) K dX0_wearing_29 (tgt := 4) (by decide) ?_
        exact ih x2 (x3 + (1 : Int32)) h k0
      · have h := h.2 c9
        refine x_iload_n (pc := 20) K dX0_wearing_20 2 rfl rfl ?_
        refine x_iconst (v := (1)) (pc := 21) K dX0_wearing_21 (by decide) ?_
        refine x_iload_n (pc := 22) K dX0_wearing_22 3 rfl rfl ?_
        refine x_ishl (pc := 23) K dX0_wearing_23 ?_
        refine x_ior (pc := 24) K dX0_wearing_24 ?_
        obtain ⟨y1, ey1, h⟩ := xl_o h
        refine x_topi ey1 ?_
        clear ey1
        refine x_istore_n (lv' := [(0, .ref (V 0)), (1, .int u1), (2, .int y1), (3, .int x3)]) (pc := 25) K dX0_wearing_25 rfl (by decide) rfl ?_
        refine x_iinc (v := x3 + (1 : Int32)) (lv' := [(0, .ref (V 0)), (1, .int u1), (2, .int y1), (3, .int (x3 + (1 : Int32)))]) (pc := 26) K dX0_wearing_26 (k := 3) rfl rfl (by decide) rfl ?_
        refine x_goto (pc := 29) K dX0_wearing_29 (tgt := 4) (by decide) ?_
        exact ih y1 (x3 + (1 : Int32)) h k0
set_option maxHeartbeats 4000000 in
set_option maxRecDepth 100000 in
theorem c_X0_wearing (l : Launch) (D : va_G) (cI cJ cZ cA : ClassId) (V : Nat → Nat) (p1 : Int32) (land : Nat → Int64) (there : Int32) (near : Nat → Int32) (worn : Nat → Int32) (trial : Nat → Int32) (fits : Nat → Int32) (ways : Nat → Int64) (P : Int32 → Prop) (h : q_X0_wearing p1 worn P) : xMi l yX0_wearing wsX0_wearing rm_X0_wearing D vwCl (xtys cI cJ cZ cA) (wX0 cI cJ cZ cA V land there near worn trial fits ways) [.ref (V 0), .int p1] (σ := Unit) (fun _ => (wX0 cI cJ cZ cA V land there near worn trial fits ways)) (fun r _ => P r) := by
  refine xMi_of (cc := cX0_wearing) (maxL := 4) (by decide) rfl (Nat.le_of_ble_eq_true rfl) ?_
  intro X K hE
  have K : xk X l rm_X0_wearing D vwCl (xtys cI cJ cZ cA) cX0_wearing RX0 wsX0_wearing 4 := K
  unfold q_X0_wearing at h
  refine x_iconst (v := (0)) (pc := 0) K dX0_wearing_0 (by decide) ?_
  refine x_istore_n (lv' := [(0, .ref (V 0)), (1, .int p1), (2, .int (0 : Int32))]) (pc := 1) K dX0_wearing_1 rfl (by decide) rfl ?_
  refine x_iconst (v := (0)) (pc := 2) K dX0_wearing_2 (by decide) ?_
  refine x_istore_n (lv' := [(0, .ref (V 0)), (1, .int p1), (2, .int (0 : Int32)), (3, .int (0 : Int32))]) (pc := 3) K dX0_wearing_3 rfl (by decide) rfl ?_
  obtain ⟨n2, h⟩ := h
  refine w_X0_wearing_L4 K p1 land there near worn trial fits ways _ n2 (0 : Int32) (0 : Int32) h (fun v3 h => ?_)
  refine x_iload_n (pc := 32) K dX0_wearing_32 0 rfl rfl ?_
  exact hE v3 () _ _ h dX0_wearing_33
