/-! the constructors -/
abbrev rm_X0_init : Room := { frames := 8, cells := 17, slots := 2198, locals := 120 }
theorem inX0_init : ∀ w ∈ u_ws RX0 TX0 8, w ∈ wsX0_init := by decide +kernel
theorem kX0_init_0 : Cond.methodLink RX0 3 objectInit ∈ wsX0_init := by decide +kernel
theorem kX0_init_1 : Cond.instanceMethod objectInit ∈ wsX0_init := by decide +kernel
theorem kX0_init_2 : Cond.code objectInit ⟨#[0xb1]⟩ 1 none ∈ wsX0_init := by decide +kernel
theorem kX0_init_3 : Cond.arrayClass .long ∈ wsX0_init := by decide +kernel
theorem kX0_init_4 : Cond.fieldLink RX0 9 "FourTints" "land" "[J" ∈ wsX0_init := by decide +kernel
theorem kX0_init_5 : Cond.fieldLink RX0 13 "FourTints" "there" "I" ∈ wsX0_init := by decide +kernel
theorem kX0_init_6 : Cond.arrayClass .int ∈ wsX0_init := by decide +kernel
theorem kX0_init_7 : Cond.fieldLink RX0 17 "FourTints" "near" "[I" ∈ wsX0_init := by decide +kernel
theorem kX0_init_8 : Cond.fieldLink RX0 21 "FourTints" "worn" "[I" ∈ wsX0_init := by decide +kernel
theorem kX0_init_9 : Cond.fieldLink RX0 24 "FourTints" "trial" "[I" ∈ wsX0_init := by decide +kernel
theorem kX0_init_10 : Cond.arrayClass .boolean ∈ wsX0_init := by decide +kernel
theorem kX0_init_11 : Cond.fieldLink RX0 27 "FourTints" "fits" "[Z" ∈ wsX0_init := by decide +kernel
theorem kX0_init_12 : Cond.fieldLink RX0 31 "FourTints" "ways" "[J" ∈ wsX0_init := by decide +kernel
theorem kX0_init_13 : Cond.classLink RX0 34 "[[I" ∈ wsX0_init := by decide +kernel
theorem kX0_init_14 : Cond.fieldLink RX0 36 "FourTints" "joined" "[[I" ∈ wsX0_init := by decide +kernel
def xV (h0 q0 q1 q2 q3 q4 q5 q : Nat) (r : Nat → Nat) : Nat → Nat := fun k => match k with | 0 => h0 | 1 => q0 | 2 => q1 | 3 => q2 | 4 => q3 | 5 => q4 | 6 => q5 | 7 => q | k + 8 => r k
set_option maxHeartbeats 4000000 in
set_option maxRecDepth 100000 in
theorem c_X0_init (l : Launch) (D : va_G) (cI cJ cZ cA : ClassId) (h0 : Nat) : xCon l yX0_init wsX0_init rm_X0_init D vwCl (xtys cI cJ cZ cA) [(h0, .inr (0, [.null, .int 0, .null, .null, .null, .null, .null, .null]))] [.ref h0] (σ := Nat → Nat) (fun V => wX0J cI cJ cZ cA V (fun _ => 0) 0 (fun _ => 0) (fun _ => 0) (fun _ => 0) (fun _ => 0) (fun _ => 0) (fun _ _ => 0)) (fun V => V 0 = h0) 17 2198 := by
  refine xC_of (cc := cX0_init) (maxL := 1) (by decide) rfl rfl (Nat.le_of_ble_eq_true rfl) ?_
  intro X K hni hE
  have K : xk X l rm_X0_init D vwCl (xtys cI cJ cZ cA) cX0_init RX0 wsX0_init 1 := K
  refine x_aload_n (pc := 0) K dX0_init_0 0 rfl rfl ?_
  refine x_objInit (pc := 1) K kX0_init_0 kX0_init_1 kX0_init_2 ⟨Nat.le_of_ble_eq_true rfl, Nat.le_of_ble_eq_true rfl⟩ dX0_init_1 ?_
  refine x_aload_n (pc := 4) K dX0_init_4 0 rfl rfl ?_
  refine x_bipush (v := 10) (pc := 5) K dX0_init_5 (by decide) ?_
  refine x_newa (pc := 7) (atype := .long) (ty := .long) (a0 := (10, .inr (.inl (fun _ => 0)))) (N := 10) K 1 rfl (fun _ _ h => h) kX0_init_3 rfl (fun c => (vp_cell_l c 10 (fun _ => 0))) (by decide) (by decide) (by decide) (Nat.le_of_ble_eq_true rfl) (Nat.le_of_ble_eq_true rfl) dX0_init_7 (fun q0 => ?_)
  refine x_ws (ws' := [(h0, .inr (0, [.null, .int 0, .null, .null, .null, .null, .null, .null])), (q0, .inl (cJ, 10, .inr (.inl (fun _ => 0))))]) rfl ?_
  refine x_putF (ws' := [(h0, .inr (0, [.ref q0, .int 0, .null, .null, .null, .null, .null, .null])), (q0, .inl (cJ, 10, .inr (.inl (fun _ => 0))))]) (pc := 9) (ci := 0) (C := RX0) (T := TX0) (N := 8) (ty := tyX0 0) K hni inX0_init tyX0 tyX0_ok nmX0 0 rfl rfl 0 (by decide) kX0_init_4 rfl rfl rfl rfl rfl rfl (Nat.le_of_ble_eq_true rfl) rfl dX0_init_9 ?_
  refine x_aload_n (pc := 12) K dX0_init_12 0 rfl rfl ?_
  refine x_iconst (v := 0) (pc := 13) K dX0_init_13 (by decide) ?_
  refine x_put (ws' := [(h0, .inr (0, [.ref q0, .int 0, .null, .null, .null, .null, .null, .null])), (q0, .inl (cJ, 10, .inr (.inl (fun _ => 0))))]) (pc := 14) (ci := 0) (C := RX0) (T := TX0) (N := 8) (ty := .int) K inX0_init tyX0 tyX0_ok nmX0 0 rfl rfl 1 (by decide) kX0_init_5 rfl rfl rfl rfl rfl (Nat.le_of_ble_eq_true rfl) rfl dX0_init_14 ?_
  refine x_aload_n (pc := 17) K dX0_init_17 0 rfl rfl ?_
  refine x_bipush (v := 10) (pc := 18) K dX0_init_18 (by decide) ?_
  refine x_newa (pc := 20) (atype := .int) (ty := .int) (a0 := (10, .inl (fun _ => 0))) (N := 10) K 0 rfl (fun _ _ h => h) kX0_init_6 rfl (fun c => (vp_cell_i c 10 (fun _ => 0))) (by decide) (by decide) (by decide) (Nat.le_of_ble_eq_true rfl) (Nat.le_of_ble_eq_true rfl) dX0_init_20 (fun q1 => ?_)
  refine x_ws (ws' := [(h0, .inr (0, [.ref q0, .int 0, .null, .null, .null, .null, .null, .null])), (q0, .inl (cJ, 10, .inr (.inl (fun _ => 0)))), (q1, .inl (cI, 10, .inl (fun _ => 0)))]) rfl ?_
  refine x_putF (ws' := [(h0, .inr (0, [.ref q0, .int 0, .ref q1, .null, .null, .null, .null, .null])), (q0, .inl (cJ, 10, .inr (.inl (fun _ => 0)))), (q1, .inl (cI, 10, .inl (fun _ => 0)))]) (pc := 22) (ci := 0) (C := RX0) (T := TX0) (N := 8) (ty := tyX0 2) K hni inX0_init tyX0 tyX0_ok nmX0 0 rfl rfl 2 (by decide) kX0_init_7 rfl rfl rfl rfl rfl rfl (Nat.le_of_ble_eq_true rfl) rfl dX0_init_22 ?_
  refine x_aload_n (pc := 25) K dX0_init_25 0 rfl rfl ?_
  refine x_bipush (v := 10) (pc := 26) K dX0_init_26 (by decide) ?_
  refine x_newa (pc := 28) (atype := .int) (ty := .int) (a0 := (10, .inl (fun _ => 0))) (N := 10) K 0 rfl (fun _ _ h => h) kX0_init_6 rfl (fun c => (vp_cell_i c 10 (fun _ => 0))) (by decide) (by decide) (by decide) (Nat.le_of_ble_eq_true rfl) (Nat.le_of_ble_eq_true rfl) dX0_init_28 (fun q2 => ?_)
  refine x_ws (ws' := [(h0, .inr (0, [.ref q0, .int 0, .ref q1, .null, .null, .null, .null, .null])), (q0, .inl (cJ, 10, .inr (.inl (fun _ => 0)))), (q1, .inl (cI, 10, .inl (fun _ => 0))), (q2, .inl (cI, 10, .inl (fun _ => 0)))]) rfl ?_
  refine x_putF (ws' := [(h0, .inr (0, [.ref q0, .int 0, .ref q1, .ref q2, .null, .null, .null, .null])), (q0, .inl (cJ, 10, .inr (.inl (fun _ => 0)))), (q1, .inl (cI, 10, .inl (fun _ => 0))), (q2, .inl (cI, 10, .inl (fun _ => 0)))]) (pc := 30) (ci := 0) (C := RX0) (T := TX0) (N := 8) (ty := tyX0 3) K hni inX0_init tyX0 tyX0_ok nmX0 0 rfl rfl 3 (by decide) kX0_init_8 rfl rfl rfl rfl rfl rfl (Nat.le_of_ble_eq_true rfl) rfl dX0_init_30 ?_
  refine x_aload_n (pc := 33) K dX0_init_33 0 rfl rfl ?_
  refine x_bipush (v := 10) (pc := 34) K dX0_init_34 (by decide) ?_
  refine x_newa (pc := 36) (atype := .int) (ty := .int) (a0 := (10, .inl (fun _ => 0))) (N := 10) K 0 rfl (fun _ _ h => h) kX0_init_6 rfl (fun c => (vp_cell_i c 10 (fun _ => 0))) (by decide) (by decide) (by decide) (Nat.le_of_ble_eq_true rfl) (Nat.le_of_ble_eq_true rfl) dX0_init_36 (fun q3 => ?_)
  refine x_ws (ws' := [(h0, .inr (0, [.ref q0, .int 0, .ref q1, .ref q2, .null, .null, .null, .null])), (q0, .inl (cJ, 10, .inr (.inl (fun _ => 0)))), (q1, .inl (cI, 10, .inl (fun _ => 0))), (q2, .inl (cI, 10, .inl (fun _ => 0))), (q3, .inl (cI, 10, .inl (fun _ => 0)))]) rfl ?_
  refine x_putF (ws' := [(h0, .inr (0, [.ref q0, .int 0, .ref q1, .ref q2, .ref q3, .null, .null, .null])), (q0, .inl (cJ, 10, .inr (.inl (fun _ => 0)))), (q1, .inl (cI, 10, .inl (fun _ => 0))), (q2, .inl (cI, 10, .inl (fun _ => 0))), (q3, .inl (cI, 10, .inl (fun _ => 0)))]) (pc := 38) (ci := 0) (C := RX0) (T := TX0) (N := 8) (ty := tyX0 4) K hni inX0_init tyX0 tyX0_ok nmX0 0 rfl rfl 4 (by decide) kX0_init_9 rfl rfl rfl rfl rfl rfl (Nat.le_of_ble_eq_true rfl) rfl dX0_init_38 ?_
  refine x_aload_n (pc := 41) K dX0_init_41 0 rfl rfl ?_
  refine x_sipush (v := 1024) (pc := 42) K dX0_init_42 (by decide) ?_
  refine x_newa (pc := 45) (atype := .boolean) (ty := .boolean) (a0 := (1024, .inl (fun _ => 0))) (N := 1024) K 2 rfl (fun _ _ h => h) kX0_init_10 rfl (fun c => (vp_cell_i c 1024 (fun _ => 0))) (by decide) (by decide) (by decide) (Nat.le_of_ble_eq_true rfl) (Nat.le_of_ble_eq_true rfl) dX0_init_45 (fun q4 => ?_)
  refine x_ws (ws' := [(h0, .inr (0, [.ref q0, .int 0, .ref q1, .ref q2, .ref q3, .null, .null, .null])), (q0, .inl (cJ, 10, .inr (.inl (fun _ => 0)))), (q1, .inl (cI, 10, .inl (fun _ => 0))), (q2, .inl (cI, 10, .inl (fun _ => 0))), (q3, .inl (cI, 10, .inl (fun _ => 0))), (q4, .inl (cZ, 1024, .inl (fun _ => 0)))]) rfl ?_
  refine x_putF (ws' := [(h0, .inr (0, [.ref q0, .int 0, .ref q1, .ref q2, .ref q3, .ref q4, .null, .null])), (q0, .inl (cJ, 10, .inr (.inl (fun _ => 0)))), (q1, .inl (cI, 10, .inl (fun _ => 0))), (q2, .inl (cI, 10, .inl (fun _ => 0))), (q3, .inl (cI, 10, .inl (fun _ => 0))), (q4, .inl (cZ, 1024, .inl (fun _ => 0)))]) (pc := 47) (ci := 0) (C := RX0) (T := TX0) (N := 8) (ty := tyX0 5) K hni inX0_init tyX0 tyX0_ok nmX0 0 rfl rfl 5 (by decide) kX0_init_11 rfl rfl rfl rfl rfl rfl (Nat.le_of_ble_eq_true rfl) rfl dX0_init_47 ?_
  refine x_aload_n (pc := 50) K dX0_init_50 0 rfl rfl ?_
  refine x_sipush (v := 1024) (pc := 51) K dX0_init_51 (by decide) ?_
  refine x_newa (pc := 54) (atype := .long) (ty := .long) (a0 := (1024, .inr (.inl (fun _ => 0)))) (N := 1024) K 1 rfl (fun _ _ h => h) kX0_init_3 rfl (fun c => (vp_cell_l c 1024 (fun _ => 0))) (by decide) (by decide) (by decide) (Nat.le_of_ble_eq_true rfl) (Nat.le_of_ble_eq_true rfl) dX0_init_54 (fun q5 => ?_)
  refine x_ws (ws' := [(h0, .inr (0, [.ref q0, .int 0, .ref q1, .ref q2, .ref q3, .ref q4, .null, .null])), (q0, .inl (cJ, 10, .inr (.inl (fun _ => 0)))), (q1, .inl (cI, 10, .inl (fun _ => 0))), (q2, .inl (cI, 10, .inl (fun _ => 0))), (q3, .inl (cI, 10, .inl (fun _ => 0))), (q4, .inl (cZ, 1024, .inl (fun _ => 0))), (q5, .inl (cJ, 1024, .inr (.inl (fun _ => 0))))]) rfl ?_
  refine x_putF (ws' := [(h0, .inr (0, [.ref q0, .int 0, .ref q1, .ref q2, .ref q3, .ref q4, .ref q5, .null])), (q0, .inl (cJ, 10, .inr (.inl (fun _ => 0)))), (q1, .inl (cI, 10, .inl (fun _ => 0))), (q2, .inl (cI, 10, .inl (fun _ => 0))), (q3, .inl (cI, 10, .inl (fun _ => 0))), (q4, .inl (cZ, 1024, .inl (fun _ => 0))), (q5, .inl (cJ, 1024, .inr (.inl (fun _ => 0))))]) (pc := 56) (ci := 0) (C := RX0) (T := TX0) (N := 8) (ty := tyX0 6) K hni inX0_init tyX0 tyX0_ok nmX0 0 rfl rfl 6 (by decide) kX0_init_12 rfl rfl rfl rfl rfl rfl (Nat.le_of_ble_eq_true rfl) rfl dX0_init_56 ?_
  refine x_aload_n (pc := 59) K dX0_init_59 0 rfl rfl ?_
  refine x_bipush (v := 10) (pc := 60) K dX0_init_60 (by decide) ?_
  refine x_bipush (v := 10) (pc := 62) K dX0_init_62 (by decide) ?_
  refine x_mna (pc := 64) K hni 0 3 rfl rfl kX0_init_13 kX0_init_6 (Nat.le_of_ble_eq_true rfl) (Nat.le_of_ble_eq_true rfl) dX0_init_64 (fun q r => ?_)
  refine x_putF (ws' := ([(h0, .inr (0, [.ref q0, .int 0, .ref q1, .ref q2, .ref q3, .ref q4, .ref q5, .ref q])), (q0, .inl (cJ, 10, .inr (.inl (fun _ => 0)))), (q1, .inl (cI, 10, .inl (fun _ => 0))), (q2, .inl (cI, 10, .inl (fun _ => 0))), (q3, .inl (cI, 10, .inl (fun _ => 0))), (q4, .inl (cZ, 1024, .inl (fun _ => 0))), (q5, .inl (cJ, 1024, .inr (.inl (fun _ => 0))))] ++ wJ cI cA q r (fun _ _ => 0))) (pc := 68) (ci := 0) (C := RX0) (T := TX0) (N := 8) (ty := tyX0 7) K hni inX0_init tyX0 tyX0_ok nmX0 0 rfl rfl 7 (by decide) kX0_init_14 rfl rfl rfl rfl rfl rfl (Nat.le_of_ble_eq_true rfl) rfl dX0_init_68 ?_
  refine x_ws (ws' := wX0J cI cJ cZ cA (xV h0 q0 q1 q2 q3 q4 q5 q r) (fun _ => 0) 0 (fun _ => 0) (fun _ => 0) (fun _ => 0) (fun _ => 0) (fun _ => 0) (fun _ _ => 0)) rfl ?_
  exact hE (xV h0 q0 q1 q2 q3 q4 q5 q r) _ _ rfl dX0_init_71
abbrev rm_X1_init : Room := { frames := 8, cells := 6, slots := 2114, locals := 120 }
theorem inX1_init : ∀ w ∈ u_ws RX1 TX1 8, w ∈ wsX1_init := by decide +kernel
theorem kX1_init_0 : Cond.methodLink RX1 3 objectInit ∈ wsX1_init := by decide +kernel
theorem kX1_init_1 : Cond.instanceMethod objectInit ∈ wsX1_init := by decide +kernel
theorem kX1_init_2 : Cond.code objectInit ⟨#[0xb1]⟩ 1 none ∈ wsX1_init := by decide +kernel
theorem kX1_init_3 : Cond.arrayClass .int ∈ wsX1_init := by decide +kernel
theorem kX1_init_4 : Cond.fieldLink RX1 9 "FourTintsModel" "cell" "[I" ∈ wsX1_init := by decide +kernel
theorem kX1_init_5 : Cond.fieldLink RX1 13 "FourTintsModel" "tint" "[I" ∈ wsX1_init := by decide +kernel
theorem kX1_init_6 : Cond.arrayClass .long ∈ wsX1_init := by decide +kernel
theorem kX1_init_7 : Cond.fieldLink RX1 16 "FourTintsModel" "cells" "[J" ∈ wsX1_init := by decide +kernel
theorem kX1_init_8 : Cond.fieldLink RX1 20 "FourTintsModel" "near" "[I" ∈ wsX1_init := by decide +kernel
theorem kX1_init_9 : Cond.fieldLink RX1 23 "FourTintsModel" "ways" "[J" ∈ wsX1_init := by decide +kernel
theorem kX1_init_10 : Cond.fieldLink RX1 26 "FourTintsModel" "more" "[J" ∈ wsX1_init := by decide +kernel
theorem kX1_init_0b : Cond.fieldLink RX1 9 "FourTintsModel" "cell" "[I" ∈ wsX1_init := by decide +kernel
def q_X1_init_L56 (P0 : (Nat → Int32) → Prop) : Nat → Int32 → (Nat → Int32) → Prop
  | 0, _, _ => False
  | n + 1, x1, cel => (((36 : Int32) ≤ x1 → P0 cel) ∧ (¬ (36 : Int32) ≤ x1 → xin x1 36 = true ∧ q_X1_init_L56 P0 n (x1 + (1 : Int32)) (upd cel x1.toNatClampNeg (-1 : Int32))))
set_option maxHeartbeats 4000000 in
set_option maxRecDepth 100000 in
theorem w_X1_init_L56 {X : xC} {l : Launch} {D : va_G} {cI cJ cZ cA : ClassId} {V : Nat → Nat} (K : xk X l rm_X1_init D vwCl (xtys cI cJ cZ cA) cX1_init RX1 wsX1_init 2) (tint : Nat → Int32) (cells : Nat → Int64) (near : Nat → Int32) (there : Int32) (ways : Nat → Int64) (more : Nat → Int64) (thrown : Int32) (P0 : (Nat → Int32) → Prop) : ∀ (n : Nat) (x1 : Int32) (cel : Nat → Int32), q_X1_init_L56 P0 n x1 cel → (∀ (z0 : Nat → Int32), P0 z0 → xw X 6 2114 75 [] [] (wX1 cI cJ cZ cA V z0 tint cells near there ways more thrown)) → xw X 6 2114 56 [(0, .ref (V 0)), (1, .int x1)] [] (wX1 cI cJ cZ cA V cel tint cells near there ways more thrown) := by
  intro n
  induction n with
  | zero =>
    intro x1 cel h
    rw [q_X1_init_L56] at h
    exact h.elim
  | succ n ih =>
    intro x1 cel h k0
    rw [q_X1_init_L56] at h
    refine x_iload_n (pc := 56) K dX1_init_56 1 rfl rfl ?_
    refine x_bipush (v := (36)) (pc := 57) K dX1_init_57 (by decide) ?_
    refine x_icmp_ge (pc := 59) K dX1_init_59 (tgt := 75) (by decide) (fun c9 => ?_) (fun c9 => ?_)
    · have h := h.1 c9
      refine x_keep [false, false] rfl ?_
      exact k0 cel h
    · have h := h.2 c9
      refine x_aload_n (pc := 62) K dX1_init_62 0 rfl rfl ?_
      refine x_get (pc := 63) (ci := 1) (C := RX1) (T := TX1) (N := 8) K (inX1_init) 0 rfl rfl 0 (by decide) kX1_init_0b rfl rfl dX1_init_63 ?_
      refine x_iload_n (pc := 66) K dX1_init_66 1 rfl rfl ?_
      refine x_iconst (v := (-1)) (pc := 67) K dX1_init_67 (by decide) ?_
      have g9 := h.1
      replace h := h.2
      refine x_iast (ws' := (wX1 cI cJ cZ cA V (upd cel x1.toNatClampNeg (-1 : Int32)) tint cells near there ways more thrown)) (pc := 68) K 1 0 rfl rfl rfl g9 dX1_init_68 ?_
      clear g9
      refine x_iinc (v := x1 + (1 : Int32)) (lv' := [(0, .ref (V 0)), (1, .int (x1 + (1 : Int32)))]) (pc := 69) K dX1_init_69 (k := 1) rfl rfl (by decide) rfl ?_
      refine x_goto (pc := 72) K dX1_init_72 (tgt := 56) (by decide) ?_
      exact ih (x1 + (1 : Int32)) (upd cel x1.toNatClampNeg (-1 : Int32)) h k0
def cel0 : Nat → Int32 := fun k => if k < 36 then -1 else 0
theorem q_X1_init_loop (P0 : (Nat → Int32) → Prop) : ∀ (d i : Nat), i + d = 36 → P0 cel0 → q_X1_init_L56 P0 (d + 1) (nI i) (fun k => if k < i then -1 else 0) := by
  intro d
  induction d with
  | zero =>
    intro i hi h
    have e : i = 36 := by omega
    subst e
    rw [q_X1_init_L56]
    exact ⟨fun _ => h, fun c => absurd (by decide) c⟩
  | succ d ih =>
    intro i hi h
    rw [q_X1_init_L56]
    refine ⟨fun c => absurd c (nI_ge (b := 36) (by omega) (by decide)), fun _ => ⟨xin_nI (by omega) (by decide), ?_⟩⟩
    rw [nI_1, nI_clamp (by omega)]
    have e : upd (fun k => if k < i then (-1 : Int32) else 0) i (-1) = fun k => if k < i + 1 then -1 else 0 := by
      funext k
      unfold upd
      by_cases h1 : k = i
      · subst h1; simp
      · rw [if_neg h1]
        show (if k < i then (-1 : Int32) else 0) = _
        by_cases h2 : k < i
        · rw [if_pos h2, if_pos (by omega)]
        · rw [if_neg h2, if_neg (by omega)]
    rw [e]
    exact ih (i + 1) (by omega) h
set_option maxHeartbeats 4000000 in
set_option maxRecDepth 100000 in
theorem c_X1_init (l : Launch) (D : va_G) (cI cJ cZ cA : ClassId) (h0 : Nat) : xCon l yX1_init wsX1_init rm_X1_init D vwCl (xtys cI cJ cZ cA) [(h0, .inr (1, [.null, .null, .null, .null, .int 0, .null, .null, .int 0]))] [.ref h0] (σ := Nat → Nat) (fun V => wX1 cI cJ cZ cA V cel0 (fun _ => 0) (fun _ => 0) (fun _ => 0) 0 (fun _ => 0) (fun _ => 0) 0) (fun V => V 0 = h0) 6 2114 := by
  refine xC_of (cc := cX1_init) (maxL := 2) (by decide) rfl rfl (Nat.le_of_ble_eq_true rfl) ?_
  intro X K hni hE
  have K : xk X l rm_X1_init D vwCl (xtys cI cJ cZ cA) cX1_init RX1 wsX1_init 2 := K
  refine x_aload_n (pc := 0) K dX1_init_0 0 rfl rfl ?_
  refine x_objInit (pc := 1) K kX1_init_0 kX1_init_1 kX1_init_2 ⟨Nat.le_of_ble_eq_true rfl, Nat.le_of_ble_eq_true rfl⟩ dX1_init_1 ?_
  refine x_aload_n (pc := 4) K dX1_init_4 0 rfl rfl ?_
  refine x_bipush (v := 36) (pc := 5) K dX1_init_5 (by decide) ?_
  refine x_newa (pc := 7) (atype := .int) (ty := .int) (a0 := (36, .inl (fun _ => 0))) (N := 36) K 0 rfl (fun _ _ h => h) kX1_init_3 rfl (fun c => (vp_cell_i c 36 (fun _ => 0))) (by decide) (by decide) (by decide) (Nat.le_of_ble_eq_true rfl) (Nat.le_of_ble_eq_true rfl) dX1_init_7 (fun q0 => ?_)
  refine x_ws (ws' := [(h0, .inr (1, [.null, .null, .null, .null, .int 0, .null, .null, .int 0])), (q0, .inl (cI, 36, .inl (fun _ => 0)))]) rfl ?_
  refine x_putF (ws' := [(h0, .inr (1, [.ref q0, .null, .null, .null, .int 0, .null, .null, .int 0])), (q0, .inl (cI, 36, .inl (fun _ => 0)))]) (pc := 9) (ci := 1) (C := RX1) (T := TX1) (N := 8) (ty := tyX1 0) K hni inX1_init tyX1 tyX1_ok nmX1 0 rfl rfl 0 (by decide) kX1_init_4 rfl rfl rfl rfl rfl rfl (Nat.le_of_ble_eq_true rfl) rfl dX1_init_9 ?_
  refine x_aload_n (pc := 12) K dX1_init_12 0 rfl rfl ?_
  refine x_bipush (v := 10) (pc := 13) K dX1_init_13 (by decide) ?_
  refine x_newa (pc := 15) (atype := .int) (ty := .int) (a0 := (10, .inl (fun _ => 0))) (N := 10) K 0 rfl (fun _ _ h => h) kX1_init_3 rfl (fun c => (vp_cell_i c 10 (fun _ => 0))) (by decide) (by decide) (by decide) (Nat.le_of_ble_eq_true rfl) (Nat.le_of_ble_eq_true rfl) dX1_init_15 (fun q1 => ?_)
  refine x_ws (ws' := [(h0, .inr (1, [.ref q0, .null, .null, .null, .int 0, .null, .null, .int 0])), (q0, .inl (cI, 36, .inl (fun _ => 0))), (q1, .inl (cI, 10, .inl (fun _ => 0)))]) rfl ?_
  refine x_putF (ws' := [(h0, .inr (1, [.ref q0, .ref q1, .null, .null, .int 0, .null, .null, .int 0])), (q0, .inl (cI, 36, .inl (fun _ => 0))), (q1, .inl (cI, 10, .inl (fun _ => 0)))]) (pc := 17) (ci := 1) (C := RX1) (T := TX1) (N := 8) (ty := tyX1 1) K hni inX1_init tyX1 tyX1_ok nmX1 0 rfl rfl 1 (by decide) kX1_init_5 rfl rfl rfl rfl rfl rfl (Nat.le_of_ble_eq_true rfl) rfl dX1_init_17 ?_
  refine x_aload_n (pc := 20) K dX1_init_20 0 rfl rfl ?_
  refine x_bipush (v := 10) (pc := 21) K dX1_init_21 (by decide) ?_
  refine x_newa (pc := 23) (atype := .long) (ty := .long) (a0 := (10, .inr (.inl (fun _ => 0)))) (N := 10) K 1 rfl (fun _ _ h => h) kX1_init_6 rfl (fun c => (vp_cell_l c 10 (fun _ => 0))) (by decide) (by decide) (by decide) (Nat.le_of_ble_eq_true rfl) (Nat.le_of_ble_eq_true rfl) dX1_init_23 (fun q2 => ?_)
  refine x_ws (ws' := [(h0, .inr (1, [.ref q0, .ref q1, .null, .null, .int 0, .null, .null, .int 0])), (q0, .inl (cI, 36, .inl (fun _ => 0))), (q1, .inl (cI, 10, .inl (fun _ => 0))), (q2, .inl (cJ, 10, .inr (.inl (fun _ => 0))))]) rfl ?_
  refine x_putF (ws' := [(h0, .inr (1, [.ref q0, .ref q1, .ref q2, .null, .int 0, .null, .null, .int 0])), (q0, .inl (cI, 36, .inl (fun _ => 0))), (q1, .inl (cI, 10, .inl (fun _ => 0))), (q2, .inl (cJ, 10, .inr (.inl (fun _ => 0))))]) (pc := 25) (ci := 1) (C := RX1) (T := TX1) (N := 8) (ty := tyX1 2) K hni inX1_init tyX1 tyX1_ok nmX1 0 rfl rfl 2 (by decide) kX1_init_7 rfl rfl rfl rfl rfl rfl (Nat.le_of_ble_eq_true rfl) rfl dX1_init_25 ?_
  refine x_aload_n (pc := 28) K dX1_init_28 0 rfl rfl ?_
  refine x_bipush (v := 10) (pc := 29) K dX1_init_29 (by decide) ?_
  refine x_newa (pc := 31) (atype := .int) (ty := .int) (a0 := (10, .inl (fun _ => 0))) (N := 10) K 0 rfl (fun _ _ h => h) kX1_init_3 rfl (fun c => (vp_cell_i c 10 (fun _ => 0))) (by decide) (by decide) (by decide) (Nat.le_of_ble_eq_true rfl) (Nat.le_of_ble_eq_true rfl) dX1_init_31 (fun q3 => ?_)
  refine x_ws (ws' := [(h0, .inr (1, [.ref q0, .ref q1, .ref q2, .null, .int 0, .null, .null, .int 0])), (q0, .inl (cI, 36, .inl (fun _ => 0))), (q1, .inl (cI, 10, .inl (fun _ => 0))), (q2, .inl (cJ, 10, .inr (.inl (fun _ => 0)))), (q3, .inl (cI, 10, .inl (fun _ => 0)))]) rfl ?_
  refine x_putF (ws' := [(h0, .inr (1, [.ref q0, .ref q1, .ref q2, .ref q3, .int 0, .null, .null, .int 0])), (q0, .inl (cI, 36, .inl (fun _ => 0))), (q1, .inl (cI, 10, .inl (fun _ => 0))), (q2, .inl (cJ, 10, .inr (.inl (fun _ => 0)))), (q3, .inl (cI, 10, .inl (fun _ => 0)))]) (pc := 33) (ci := 1) (C := RX1) (T := TX1) (N := 8) (ty := tyX1 3) K hni inX1_init tyX1 tyX1_ok nmX1 0 rfl rfl 3 (by decide) kX1_init_8 rfl rfl rfl rfl rfl rfl (Nat.le_of_ble_eq_true rfl) rfl dX1_init_33 ?_
  refine x_aload_n (pc := 36) K dX1_init_36 0 rfl rfl ?_
  refine x_sipush (v := 1024) (pc := 37) K dX1_init_37 (by decide) ?_
  refine x_newa (pc := 40) (atype := .long) (ty := .long) (a0 := (1024, .inr (.inl (fun _ => 0)))) (N := 1024) K 1 rfl (fun _ _ h => h) kX1_init_6 rfl (fun c => (vp_cell_l c 1024 (fun _ => 0))) (by decide) (by decide) (by decide) (Nat.le_of_ble_eq_true rfl) (Nat.le_of_ble_eq_true rfl) dX1_init_40 (fun q4 => ?_)
  refine x_ws (ws' := [(h0, .inr (1, [.ref q0, .ref q1, .ref q2, .ref q3, .int 0, .null, .null, .int 0])), (q0, .inl (cI, 36, .inl (fun _ => 0))), (q1, .inl (cI, 10, .inl (fun _ => 0))), (q2, .inl (cJ, 10, .inr (.inl (fun _ => 0)))), (q3, .inl (cI, 10, .inl (fun _ => 0))), (q4, .inl (cJ, 1024, .inr (.inl (fun _ => 0))))]) rfl ?_
  refine x_putF (ws' := [(h0, .inr (1, [.ref q0, .ref q1, .ref q2, .ref q3, .int 0, .ref q4, .null, .int 0])), (q0, .inl (cI, 36, .inl (fun _ => 0))), (q1, .inl (cI, 10, .inl (fun _ => 0))), (q2, .inl (cJ, 10, .inr (.inl (fun _ => 0)))), (q3, .inl (cI, 10, .inl (fun _ => 0))), (q4, .inl (cJ, 1024, .inr (.inl (fun _ => 0))))]) (pc := 42) (ci := 1) (C := RX1) (T := TX1) (N := 8) (ty := tyX1 5) K hni inX1_init tyX1 tyX1_ok nmX1 0 rfl rfl 5 (by decide) kX1_init_9 rfl rfl rfl rfl rfl rfl (Nat.le_of_ble_eq_true rfl) rfl dX1_init_42 ?_
  refine x_aload_n (pc := 45) K dX1_init_45 0 rfl rfl ?_
  refine x_sipush (v := 1024) (pc := 46) K dX1_init_46 (by decide) ?_
  refine x_newa (pc := 49) (atype := .long) (ty := .long) (a0 := (1024, .inr (.inl (fun _ => 0)))) (N := 1024) K 1 rfl (fun _ _ h => h) kX1_init_6 rfl (fun c => (vp_cell_l c 1024 (fun _ => 0))) (by decide) (by decide) (by decide) (Nat.le_of_ble_eq_true rfl) (Nat.le_of_ble_eq_true rfl) dX1_init_49 (fun q5 => ?_)
  refine x_ws (ws' := [(h0, .inr (1, [.ref q0, .ref q1, .ref q2, .ref q3, .int 0, .ref q4, .null, .int 0])), (q0, .inl (cI, 36, .inl (fun _ => 0))), (q1, .inl (cI, 10, .inl (fun _ => 0))), (q2, .inl (cJ, 10, .inr (.inl (fun _ => 0)))), (q3, .inl (cI, 10, .inl (fun _ => 0))), (q4, .inl (cJ, 1024, .inr (.inl (fun _ => 0)))), (q5, .inl (cJ, 1024, .inr (.inl (fun _ => 0))))]) rfl ?_
  refine x_putF (ws' := [(h0, .inr (1, [.ref q0, .ref q1, .ref q2, .ref q3, .int 0, .ref q4, .ref q5, .int 0])), (q0, .inl (cI, 36, .inl (fun _ => 0))), (q1, .inl (cI, 10, .inl (fun _ => 0))), (q2, .inl (cJ, 10, .inr (.inl (fun _ => 0)))), (q3, .inl (cI, 10, .inl (fun _ => 0))), (q4, .inl (cJ, 1024, .inr (.inl (fun _ => 0)))), (q5, .inl (cJ, 1024, .inr (.inl (fun _ => 0))))]) (pc := 51) (ci := 1) (C := RX1) (T := TX1) (N := 8) (ty := tyX1 6) K hni inX1_init tyX1 tyX1_ok nmX1 0 rfl rfl 6 (by decide) kX1_init_10 rfl rfl rfl rfl rfl rfl (Nat.le_of_ble_eq_true rfl) rfl dX1_init_51 ?_
  refine x_iconst (v := 0) (pc := 54) K dX1_init_54 (by decide) ?_
  refine x_ws (ws' := wX1 cI cJ cZ cA (xV h0 q0 q1 q2 q3 q4 q5 0 (fun _ => 0)) (fun _ => 0) (fun _ => 0) (fun _ => 0) (fun _ => 0) 0 (fun _ => 0) (fun _ => 0) 0) rfl ?_
  refine x_istore_n (lv' := [(0, .ref ((xV h0 q0 q1 q2 q3 q4 q5 0 (fun _ => 0)) 0)), (1, .int 0)]) (pc := 55) K dX1_init_55 rfl (by decide) rfl ?_
  have hq : q_X1_init_L56 (fun c => c = cel0) 37 (nI 0) (fun k => if k < 0 then -1 else 0) := q_X1_init_loop _ 36 0 rfl rfl
  rw [show (fun k : Nat => if k < 0 then (-1 : Int32) else 0) = (fun _ => 0) from funext fun k => if_neg (Nat.not_lt_zero k)] at hq
  refine w_X1_init_L56 (V := (xV h0 q0 q1 q2 q3 q4 q5 0 (fun _ => 0))) K (fun _ => 0) (fun _ => 0) (fun _ => 0) 0 (fun _ => 0) (fun _ => 0) 0 (fun c => c = cel0) 37 0 (fun _ => 0) hq (fun c hc => ?_)
  subst hc
  exact hE (xV h0 q0 q1 q2 q3 q4 q5 0 (fun _ => 0)) _ _ rfl dX1_init_75
