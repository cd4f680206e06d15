/-! the constructors -/
abbrev rm_X0_init : Room := { frames := 8, cells := 17, slots := 2198, locals := 120 }
theorem inX0_init : ∀ w ∈ u_ws RX0 TX0 8, w ∈ wsX0_init := by decide +kernel
theorem kX0_init_0 : Cond.methodLink RX0 3 objectInit ∈ wsX0_init := by decide +kernel
theorem kX0_init_1 : Cond.instanceMethod objectInit ∈ wsX0_init := by decide +kernel
theorem kX0_init_2 : Cond.code objectInit ⟨#[0xb1]⟩ 1 none ∈ wsX0_init := by decide +kernel
theorem kX0_init_3 : Cond.arrayClass .long ∈ wsX0_init := by decide +kernel
theorem kX0_init_4 : Cond.fieldLink RX0 9 "FourTints" "land" "[J" ∈ wsX0_init := by decide +kernel
theorem kX0_init_5 : Cond.fieldLink RX0 13 "FourTints" "there" "I" ∈ wsX0_init := by decide +kernel
theorem kX0_init_6 : Cond.arrayClass .int ∈ wsX0_init := by decide +kernel
theorem kX0_init_7 : Cond.fieldLink RX0 17 "FourTints" "near" "[I" ∈ wsX0_init := by decide +kernel
theorem kX0_init_8 : Cond.fieldLink RX0 21 "FourTints" "worn" "[I" ∈ wsX0_init := by decide +kernel
theorem kX0_init_9 : Cond.fieldLink RX0 24 "FourTints" "trial" "[I" ∈ wsX0_init := by decide +kernel
theorem kX0_init_10 : Cond.arrayClass .boolean ∈ wsX0_init := by decide +kernel
theorem kX0_init_11 : Cond.fieldLink RX0 27 "FourTints" "fits" "[Z" ∈ wsX0_init := by decide +kernel
theorem kX0_init_12 : Cond.fieldLink RX0 31 "FourTints" "ways" "[J" ∈ wsX0_init := by decide +kernel
theorem kX0_init_13 : Cond.classLink RX0 34 "[[I" ∈ wsX0_init := by decide +kernel
theorem kX0_init_14 : Cond.fieldLink RX0 36 "FourTints" "joined" "[[I" ∈ wsX0_init := by decide +kernel
def xV (h0 q0 q1 q2 q3 q4 q5 q : Nat) (r : Nat → Nat) : Nat → Nat := fun k => match k with | 0 => h0 | 1 => q0 | 2 => q1 | 3 => q2 | 4 => q3 | 5 => q4 | 6 => q5 | 7 => q | k + 8 => r k
set_option maxHeartbeats 4000000 in
set_option maxRecDepth 100000 in
theorem c_X0_init (l : Launch) (D : va_G) (cI cJ cZ cA : ClassId) (h0 : Nat) : xCon l yX0_init wsX0_init rm_X0_init D vwCl (xtys cI cJ cZ cA) [(h0, .inr (0, [.null, .int 0, .null, .null, .null, .null, .null, .null]))] [.ref h0] (σ := Nat → Nat) (fun V => wX0J cI cJ cZ cA V (fun _ => 0) 0 (fun _ => 0) (fun _ => 0) (fun _ => 0) (fun _ => 0) (fun _ => 0) (fun _ _ => 0)) (fun V => V 0 = h0) 17 2198 := by
  refine xC_of (cc := cX0_init) (maxL := 1) (by decide) rfl rfl (Nat.le_of_ble_eq_true rfl) ?_
  intro X K hni hE
  have K : xk X l rm_X0_init D vwCl (xtys cI cJ cZ cA) cX0_init RX0 wsX0_init 1 := K
  refine x_aload_n (pc := 0) K dX0_init_0 0 rfl rfl ?_
  refine x_objInit (pc := 1) K kX0_init_0 kX0_init_1 kX0_init_2 ⟨Nat.le_of_ble_eq_true rfl, Nat.le_of_ble_eq_true rfl⟩ dX0_init_1 ?_
  refine x_aload_n (pc := 4) K dX0_init_4 0 rfl rfl ?_
  refine x_bipush (v := 10) (pc := 5) K dX0_init_5 (by decide) ?_
  refine x_newa (pc := 7) (atype := .long) (ty := .long) (a0 := (10, .inr (.inl (fun _ => 0)))) (N := 10) K 1 rfl (fun _ _ h => h) kX0_init_3 rfl (fun c => (vp_cell_l c 10 (fun _ => 0))) (by decide) (by decide) (by decide) (Nat.le_of_ble_eq_true rfl) (Nat.le_of_ble_eq_true rfl) dX0_init_7 (fun q0 => ?_)
  refine x_ws (ws' := [(h0, .inr (0, [.null, .int 0, .null, .null, .null, .null, .null, .null])), (q0, .inl (cJ, 10, .inr (.inl (fun _ => 0))))]) rfl ?_
  refine x_putF (ws' := [(h0, .inr (0, [.ref q0, .int 0, .null, .null, .null, .null, .null, .null])), (q0, .inl (cJ, 10, .inr (.inl (fun _ => 0))))]) (pc := 9) (ci := 0) (C := RX0) (T := TX0) (N := 8) (ty := tyX0 0) K hni inX0_init tyX0 tyX0_ok nmX0 0 rfl rfl 0 (by decide) kX0_init_4 rfl rfl rfl rfl rfl rfl (Nat.le_of_ble_eq_true rfl) rfl dX0_init_9 ?_
  refine x_aload_n (pc := 12) K dX0_init_12 0 rfl rfl ?_
  refine x_iconst (v := 0) (pc := 13) K dX0_init_13 (by decide) ?_
  refine x_put (ws' := [(h0, .inr (0, [.ref q0, .int 0, .null, .null, .null, .null, .null, .null])), (q0, .inl (cJ, 10, .inr (.inl (fun _ => 0))))]) (pc := 14) (ci := 0) (C := RX0) (T := TX0) (N := 8) (ty := .int) K inX0_init tyX0 tyX0_ok nmX0 0 rfl rfl 1 (by decide) kX0_init_5 rfl rfl rfl rfl rfl (Nat.le_of_ble_eq_true rfl) rfl dX0_init_14 ?_
  refine x_aload_n (pc := 17) K dX0_init_17 0 rfl rfl ?_
  refine x_bipush (v := 10) (pc := 18) K dX0_init_18 (by decide) ?_
  refine x_newa (pc := 20) (atype := .int) (ty := .int) (a0 := (10, .inl (fun _ => 0))) (N := 10) K 0 rfl (fun _ _ h => h) kX0_init_6 rfl (fun c => (vp_cell_i c 10 (fun _ => 0))) (by decide) (by decide) (by decide) (Nat.le_of_ble_eq_true rfl) (Nat.le_of_ble_eq_true rfl) dX0_init_20 (fun q1 => ?_)
  refine x_ws (ws' := [(h0, .inr (0, [.ref q0, .int 0, .null, .null, .null, .null, .null, .null])), (q0, .inl (cJ, 10, .inr (.inl (fun _ => 0)))), (q1, .inl (cI, 10, .inl (fun _ => 0)))]) rfl ?_
  refine x_putF (ws' := [(h0, .inr (0, [.ref q0, .int 0, .ref q1, .null, .null, .null, .null, .null])), (q0, .inl (cJ, 10, .inr (.inl (fun _ => 0)))), (q1, .inl (cI, 10, .inl (fun _ => 0)))]) (pc := 22) (ci := 0) (C := RX0) (T := TX0) (N := 8) (ty := tyX0 2) K hni inX0_init tyX0 tyX0_ok nmX0 0 rfl rfl 2 (by decide) kX0_init_7 rfl rfl rfl rfl rfl rfl (Nat.le_of_ble_eq_true rfl) rfl dX0_init_22 ?_
  refine x_aload_n (pc := 25) K dX0_init_25 0 rfl rfl ?_
  refine x_bipush (v := 10) (pc := 26) K dX0_init_26 (by decide) ?_
  refine x_newa (pc := 28) (atype := .int) (ty := .int) (a0 := (10, .inl (fun _ => 0))) (N := 10) K 0 rfl (fun _ _ h => h) kX0_init_6 rfl (fun c => (vp_cell_i c 10 (fun _ => 0))) (by decide) (by decide) (by decide) (Nat.le_of_ble_eq_true rfl) (Nat.le_of_ble_eq_true rfl) dX0_init_28 (fun q2 => ?_)
  refine x_ws (ws' := [(h0, .inr (0, [.ref q0, .int 0, .ref q1, .null, .null, .null, .null, .null])), (q0, .inl (cJ, 10, .inr (.inl (fun _ => 0)))), (q1, .inl (cI, 10, .inl (fun _ => 0))), (q2, .inl (cI, 10, .inl (fun _ => 0)))]) rfl ?_
  refine x_putF (ws' := [(h0, .inr (0, [.ref q0, .int 0, .ref q1, .ref q2, .null, .null, .null, .null])), (q0, .inl (cJ, 10, .inr (.inl (fun _ => 0)))), (q1, .inl (cI, 10, .inl (fun _ => 0))), (q2, .inl (cI, 10, .inl (fun _ => 0)))]) (pc := 30) (ci := 0) (C := RX0) (T := TX0) (N := 8) (ty := tyX0 3) K hni inX0_init tyX0 tyX0_ok nmX0 0 rfl rfl 3 (by decide) kX0_init_8 rfl rfl rfl rfl rfl rfl (Nat.le_of_ble_eq_true rfl) rfl dX0_init_30 ?_
  refine x_aload_n (pc := 33) K dX0_init_33 0 rfl rfl ?_
  refine x_bipush (v := 10) (pc := 34) K dX0_init_34 (by decide) ?_
  refine x_newa (pc := 36) (atype := .int) (ty := .int) (a0 := (10, .inl (fun _ => 0))) (N := 10) K 0 rfl (fun _ _ h => h) kX0_init_6 rfl (fun c => (vp_cell_i c 10 (fun _ => 0))) (by decide) (by decide) (by decide) (Nat.le_of_ble_eq_true rfl) (Nat.le_of_ble_eq_true rfl) dX0_init_36 (fun q3 => ?_)
  refine x_ws (ws' := [(h0, .inr (0, [.ref q0, .int 0, .ref q1, .ref q2, .null, .null, .null, .null])), (q0, .inl (cJ, 10, .inr (.inl (fun _ => 0)))), (q1, .inl (cI, 10, .inl (fun _ => 0))), (q2, .inl (cI, 10, .inl (fun _ => 0))), (q3, .inl (cI, 10, .inl (fun _ => 0)))]) rfl ?_
  refine x_putF (ws' := [(h0, .inr (0, [.ref q0, .int 0, .ref q1, .ref q2, .ref q3, .null, .null, .null])), (q0, .inl (cJ, 10, .inr (.inl (fun _ => 0)))), (q1, .inl (cI, 10, .inl (fun _ => 0))), (q2, .inl (cI, 10, .inl (fun _ => 0))), (q3, .inl (cI, 10, .inl (fun _ => 0)))]) (pc := 38) (ci := 0) (C := RX0) (T := TX0) (N := 8) (ty := tyX0 4) K hni inX0_init tyX0 tyX0_ok nmX0 0 rfl rfl 4 (by decide) kX0_init_9 rfl rfl rfl rfl rfl rfl (Nat.le_of_ble_eq_true rfl) rfl dX0_init_38 ?_
  refine x_aload_n (pc := 41) K dX0_init_41 0 rfl rfl ?_
  refine x_sipush (v := 1024) (pc := 42) K dX0_init_42 (by decide) ?_
  refine x_newa (pc := 45) (atype := .boolean) (ty := .boolean) (a0 := (1024, .inl (fun _ => 0))) (N := 1024) K 2 rfl (fun _ _ h => h) kX0_init_10 rfl (fun c => (vp_cell_i c 1024 (fun _ => 0))) (by decide) (by decide) (by decide) (Nat.le_of_ble_eq_true rfl) (Nat.le_of_ble_eq_true rfl) dX0_init_45 (fun q4 => ?_)
  refine x_ws (ws' := [(h0, .inr (0, [.ref q0, .int 0, .ref q1, .ref q2, .ref q3, .null, .null, .null])), (q0, .inl (cJ, 10, .inr (.inl (fun _ => 0)))), (q1, .inl (cI, 10, .inl (fun _ => 0))), (q2, .inl (cI, 10, .inl (fun _ => 0))), (q3, .inl (cI, 10, .inl (fun _ => 0))), (q4, .inl (cZ, 1024, .inl (fun _ => 0)))]) rfl ?_
  refine x_putF (ws' := [(h0, .inr (0, [.ref q0, .int 0, .ref q1, .ref q2, .ref q3, .ref q4, .null, .null])), (q0, .inl (cJ, 10, .inr (.inl (fun _ => 0)))), (q1, .inl (cI, 10, .inl (fun _ => 0))), (q2, .inl (cI, 10, .inl (fun _ => 0))), (q3, .inl (cI, 10, .inl (fun _ => 0))), (q4, .inl (cZ, 1024, .inl (fun _ => 0)))]) (pc := 47) (ci := 0) (C := RX0) (T := TX0) (N := 8) (ty := tyX0 5) K hni inX0_init tyX0 tyX0_ok nmX0 0 rfl rfl 5 (by decide) kX0_init_11 rfl rfl rfl rfl rfl rfl (Nat.le_of_ble_eq_true rfl) rfl dX0_init_47 ?_
  refine x_aload_n (pc := 50) K dX0_init_50 0 rfl rfl ?_
  refine x_sipush (v := 1024) (pc := 51) K dX0_init_51 (by decide) ?_
  refine x_newa (pc := 54) (atype := .long) (ty := .long) (a0 := (1024, .inr (.inl (fun _ => 0)))) (N := 1024) K 1 rfl (fun _ _ h => h) kX0_init_3 rfl (fun c => (vp_cell_l c 1024 (fun _ => 0))) (by decide) (by decide) (by decide) (Nat.le_of_ble_eq_true rfl) (Nat.le_of_ble_eq_true rfl) dX0_init_54 (fun q5 => ?_)
  refine x_ws (ws' := [(h0, .inr (0, [.ref q0, .int 0, .ref q1, .ref q2, .ref q3, .ref q4, .null, .null])), (q0, .inl (cJ, 10, .inr (.inl (fun _ => 0)))), (q1, .inl (cI, 10, .inl (fun _ => 0))), (q2, .inl (cI, 10, .inl (fun _ => 0))), (q3, .inl (cI, 10, .inl (fun _ => 0))), (q4, .inl (cZ, 1024, .inl (fun _ => 0))), (q5, .inl (cJ, 1024, .inr (.inl (fun _ => 0))))]) rfl ?_
  refine x_putF (ws' := [(h0, .inr (0, [.ref q0, .int 0, .ref q1, .ref q2, .ref q3, .ref q4, .ref q5, .null])), (q0, .inl (cJ, 10, .inr (.inl (fun _ => 0)))), (q1, .inl (cI, 10, .inl (fun _ => 0))), (q2, .inl (cI, 10, .inl (fun _ => 0))), (q3, .inl (cI, 10, .inl (fun _ => 0))), (q4, .inl (cZ, 1024, .inl (fun _ => 0))), (q5, .inl (cJ, 1024, .inr (.inl (fun _ => 0))))]) (pc := 56) (ci := 0) (C := RX0) (T := TX0) (N := 8) (ty := tyX0 6) K hni inX0_init tyX0 tyX0_ok nmX0 0 rfl rfl 6 (by decide) kX0_init_12 rfl rfl rfl rfl rfl rfl (Nat.le_of_ble_eq_true rfl) rfl dX0_init_56 ?_
  refine x_aload_n (pc := 59) K dX0_init_59 0 rfl rfl ?_
  refine x_bipush (v := 10) (pc := 60) K dX0_init_60 (by decide) ?_
  refine x_bipush (v := 10) (pc := 62) K dX0_init_62 (by decide) ?_
  refine x_mna (pc := 64) K hni 0 3 rfl rfl kX0_init_13 kX0_init_6 (Nat.le_of_ble_eq_true rfl) (Nat.le_of_ble_eq_true rfl) dX0_init_64 (fun q r => ?_)
  refine x_putF (ws' := ([(h0, .inr (0, [.ref q0, .int 0, .ref q1, .ref q2, .ref q3, .ref q4, .ref q5, .ref q])), (q0, .inl (cJ, 10, .inr (.inl (fun _ => 0)))), (q1, .inl (cI, 10, .inl (fun _ => 0))), (q2, .inl (cI, 10, .inl (fun _ => 0))), (q3, .inl (cI, 10, .inl (fun _ => 0))), (q4, .inl (cZ, 1024, .inl (fun _ => 0))), (q5, .inl (cJ, 1024, .inr (.inl (fun _ => 0))))] ++ wJ cI cA q r (fun _ _ => 0))) (pc := 68) (ci := 0) (C := RX0) (T := TX0) (N := 8) (ty := tyX0 7) K hni inX0_init tyX0 tyX0_ok nmX0 0 rfl rfl 7 (by decide) kX0_init_14 rfl rfl rfl rfl rfl rfl (Nat.le_of_ble_eq_true rfl) rfl dX0_init_68 ?_
  refine x_ws (ws' := wX0J cI cJ cZ cA (xV h0 q0 q1 q2 q3 q4 q5 q r) (fun _ => 0) 0 (fun _ => 0) (fun _ => 0) (fun _ => 0) (fun _ => 0) (fun _ => 0) (fun _ _ => 0)) rfl ?_
  exact hE (xV h0 q0 q1 q2 q3 q4 q5 q r) _ _ rfl dX0_init_71
def cel0 : Nat → Int32 := fun k => if k < 36 then -1 else 0
