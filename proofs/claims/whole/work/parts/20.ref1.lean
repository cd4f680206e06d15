abbrev rm_X1_told : Room := { frames := 8, cells := 0, slots := 0, locals := 120 }
theorem inX1_told : ∀ w ∈ u_ws RX1 TX1 8, w ∈ wsX1_told := by decide +kernel
theorem kX1_told_0 : Cond.fieldLink RX1 29 "FourTintsModel" "thrown" "I" ∈ wsX1_told := by decide +kernel
def q_X1_told (p1 : Int32) (P : Int32 → Int32 → Prop) : Prop := P p1 (0 : Int32)
set_option maxHeartbeats 4000000 in
set_option maxRecDepth 100000 in
theorem c_X1_told (l : Launch) (D : va_G) (cI cJ cZ cA : ClassId) (V : Nat → Nat) (p1 : Int32) (cel : Nat → Int32) (tint : Nat → Int32) (cells : Nat → Int64) (near : Nat → Int32) (there : Int32) (ways : Nat → Int64) (more : Nat → Int64) (thrown : Int32) (P : Int32 → Int32 → Prop) (h : q_X1_told p1 P) : xMi l yX1_told wsX1_told rm_X1_told D vwCl (xtys cI cJ cZ cA) (wX1 cI cJ cZ cA V cel tint cells near there ways more thrown) [.ref (V 0), .int p1] (σ := Int32) (fun u => (wX1 cI cJ cZ cA V cel tint cells near there ways more u)) (fun r u => P r u) := by
  refine xMi_of (cc := cX1_told) (maxL := 2) (by decide) rfl (Nat.le_of_ble_eq_true rfl) ?_
  intro X K hE
  have K : xk X l rm_X1_told D vwCl (xtys cI cJ cZ cA) cX1_told RX1 wsX1_told 2 := K
  unfold q_X1_told at h
  refine x_aload_n (pc := 0) K dX1_told_0 0 rfl rfl ?_
  refine x_iconst (v := (0)) (pc := 1) K dX1_told_1 (by decide) ?_
  refine x_put (ws' := (wX1 cI cJ cZ cA V cel tint cells near there ways more (0 : Int32))) (pc := 2) (ci := 1) (C := RX1) (T := TX1) (N := 8) (ty := .int) K (inX1_told) tyX1 tyX1_ok nmX1 0 rfl rfl 7 (by decide) kX1_told_0 rfl rfl rfl rfl rfl (Nat.le_of_ble_eq_true rfl) rfl dX1_told_2 ?_
  refine x_iload_n (pc := 5) K dX1_told_5 1 rfl rfl ?_
  exact hE p1 (0 : Int32) _ _ h dX1_told_6
abbrev rm_X1_isCell : Room := { frames := 9, cells := 0, slots := 0, locals := 160 }
def q_X1_isCell (p0 : Int32) (p1 : Int32) (P : Int32 → Prop) : Prop := q_X1_in p0 (0 : Int32) (5 : Int32) (fun (r1 : Int32) => ((r1 = (0 : Int32) → (xbool (0 : Int32) ∧ P (0 : Int32))) ∧ (¬ r1 = (0 : Int32) → q_X1_in p1 (0 : Int32) (5 : Int32) (fun (r2 : Int32) => ((r2 = (0 : Int32) → (xbool (0 : Int32) ∧ P (0 : Int32))) ∧ (¬ r2 = (0 : Int32) → (xbool (1 : Int32) ∧ P (1 : Int32))))))))
set_option maxHeartbeats 4000000 in
set_option maxRecDepth 100000 in
theorem c_X1_isCell (l : Launch) (D : va_G) (cI cJ cZ cA : ClassId) (p0 : Int32) (p1 : Int32) (P : Int32 → Prop) (h : q_X1_isCell p0 p1 P) : xMz l yX1_isCell wsX1_isCell rm_X1_isCell D vwCl (xtys cI cJ cZ cA) [] [.int p0, .int p1] (σ := Unit) (fun _ => []) (fun r _ => P r) := by
  refine xMz_of (cc := cX1_isCell) (maxL := 2) (by decide) rfl (Nat.le_of_ble_eq_true rfl) ?_
  intro X K hE
  have K : xk X l rm_X1_isCell D vwCl (xtys cI cJ cZ cA) cX1_isCell RX1 wsX1_isCell 2 := K
  unfold q_X1_isCell at h
  refine x_iload_n (pc := 0) K dX1_isCell_0 0 rfl rfl ?_
  refine x_iconst (v := (0)) (pc := 1) K dX1_isCell_1 (by decide) ?_
  refine x_iconst (v := (5)) (pc := 2) K dX1_isCell_2 (by decide) ?_
  refine x_pcallSz (pc := 3) (n := 3) K (c_X1_in l D cI cJ cZ cA p0 (0 : Int32) (5 : Int32) _ h) rfl rfl gX1_isCell_X1_in rfl (by decide +kernel) ⟨Nat.le_of_ble_eq_true rfl, Nat.le_of_ble_eq_true rfl⟩ rfl (av := [.int p0, .int (0 : Int32), .int (5 : Int32)]) rfl (Nat.le_of_ble_eq_true rfl) dX1_isCell_3 ⟨Nat.le_of_ble_eq_true rfl, Nat.le_of_ble_eq_true rfl⟩ (fun r1 u9 h => ?_)
  refine x_if_eq (pc := 6) K dX1_isCell_6 (tgt := 22) (by decide) (fun c9 => ?_) (fun c9 => ?_)
  · have h := h.1 c9
    refine x_keep [false, false] rfl ?_
    refine x_iconst (v := (0)) (pc := 22) K dX1_isCell_22 (by decide) ?_
    exact hE (0 : Int32) () _ _ h.2 h.1 dX1_isCell_23
  · have h := h.2 c9
    refine x_keep [false, true] rfl ?_
    refine x_iload_n (pc := 9) K dX1_isCell_9 0 rfl rfl ?_
    refine x_iconst (v := (0)) (pc := 10) K dX1_isCell_10 (by decide) ?_
    refine x_iconst (v := (5)) (pc := 11) K dX1_isCell_11 (by decide) ?_
    refine x_pcallSz (pc := 12) (n := 3) K (c_X1_in l D cI cJ cZ cA p1 (0 : Int32) (5 : Int32) _ h) rfl rfl gX1_isCell_X1_in rfl (by decide +kernel) ⟨Nat.le_of_ble_eq_true rfl, Nat.le_of_ble_eq_true rfl⟩ rfl (av := [.int p1, .int (0 : Int32), .int (5 : Int32)]) rfl (Nat.le_of_ble_eq_true rfl) dX1_isCell_12 ⟨Nat.le_of_ble_eq_true rfl, Nat.le_of_ble_eq_true rfl⟩ (fun r2 u9 h => ?_)
    refine x_if_eq (pc := 15) K dX1_isCell_15 (tgt := 22) (by decide) (fun c9 => ?_) (fun c9 => ?_)
    · have h := h.1 c9
      refine x_keep [false] rfl ?_
      refine x_iconst (v := (0)) (pc := 22) K dX1_isCell_22 (by decide) ?_
      exact hE (0 : Int32) () _ _ h.2 h.1 dX1_isCell_23
    · have h := h.2 c9
      refine x_keep [false] rfl ?_
      refine x_iconst (v := (1)) (pc := 18) K dX1_isCell_18 (by decide) ?_
      refine x_goto (pc := 19) K dX1_isCell_19 (tgt := 23) (by decide) ?_
      exact hE (1 : Int32) () _ _ h.2 h.1 dX1_isCell_23
abbrev rm_X1_isCountry : Room := { frames := 9, cells := 0, slots := 0, locals := 160 }
def q_X1_isCountry (p0 : Int32) (P : Int32 → Prop) : Prop := q_X1_in p0 (0 : Int32) (9 : Int32) (fun (r1 : Int32) => (xbool r1 ∧ P r1))
set_option maxHeartbeats 4000000 in
set_option maxRecDepth 100000 in
theorem c_X1_isCountry (l : Launch) (D : va_G) (cI cJ cZ cA : ClassId) (p0 : Int32) (P : Int32 → Prop) (h : q_X1_isCountry p0 P) : xMz l yX1_isCountry wsX1_isCountry rm_X1_isCountry D vwCl (xtys cI cJ cZ cA) [] [.int p0] (σ := Unit) (fun _ => []) (fun r _ => P r) := by
  refine xMz_of (cc := cX1_isCountry) (maxL := 1) (by decide) rfl (Nat.le_of_ble_eq_true rfl) ?_
  intro X K hE
  have K : xk X l rm_X1_isCountry D vwCl (xtys cI cJ cZ cA) cX1_isCountry RX1 wsX1_isCountry 1 := K
  unfold q_X1_isCountry at h
  refine x_iload_n (pc := 0) K dX1_isCountry_0 0 rfl rfl ?_
  refine x_iconst (v := (0)) (pc := 1) K dX1_isCountry_1 (by decide) ?_
  refine x_bipush (v := (9)) (pc := 2) K dX1_isCountry_2 (by decide) ?_
  refine x_pcallSz (pc := 4) (n := 3) K (c_X1_in l D cI cJ cZ cA p0 (0 : Int32) (9 : Int32) _ h) rfl rfl gX1_isCountry_X1_in rfl (by decide +kernel) ⟨Nat.le_of_ble_eq_true rfl, Nat.le_of_ble_eq_true rfl⟩ rfl (av := [.int p0, .int (0 : Int32), .int (9 : Int32)]) rfl (Nat.le_of_ble_eq_true rfl) dX1_isCountry_4 ⟨Nat.le_of_ble_eq_true rfl, Nat.le_of_ble_eq_true rfl⟩ (fun r1 u9 h => ?_)
  exact hE r1 () _ _ h.2 h.1 dX1_isCountry_7
abbrev rm_X1_bits : Room := { frames := 8, cells := 0, slots := 0, locals := 120 }
def q_X1_bits_L4 (u0 : Int64) (P0 : Int32 → Prop) : Nat → Int32 → Int32 → Prop
  | 0, _, _ => False
  | n + 1, x2, x3 => (((36 : Int32) ≤ x3 → P0 x2) ∧ (¬ (36 : Int32) ≤ x3 → xl (x2 + (((xlshr u0 x3) &&& (1 : Int64)).toInt32)) (fun y1 => q_X1_bits_L4 u0 P0 n y1 (x3 + (1 : Int32)))))
def q_X1_bits (p0 : Int64) (P : Int32 → Prop) : Prop := (∃ n2 : Nat, q_X1_bits_L4 p0 (fun (v3 : Int32) => P v3) n2 (0 : Int32) (0 : Int32))
set_option maxHeartbeats 4000000 in
set_option maxRecDepth 100000 in
theorem w_X1_bits_L4 {X : xC} {l : Launch} {D : va_G} {cI cJ cZ cA : ClassId} (K : xk X l rm_X1_bits D vwCl (xtys cI cJ cZ cA) cX1_bits RX1 wsX1_bits 4) (u0 : Int64) (P0 : Int32 → Prop) : ∀ (n : Nat) (x2 : Int32) (x3 : Int32), q_X1_bits_L4 u0 P0 n x2 x3 → (∀ (z0 : Int32), P0 z0 → xw X 0 0 25 [(2, .int z0)] [] []) → xw X 0 0 4 [(0, .long u0), (2, .int x2), (3, .int x3)] [] [] := by
  intro n
  induction n with
  | zero =>
    intro x2 x3 h
    rw [q_X1_bits_L4] at h
    exact h.elim
  | succ n ih =>
    intro x2 x3 h k0
    rw [q_X1_bits_L4] at h
    refine x_iload_n (pc := 4) K dX1_bits_4 2 rfl rfl ?_
    refine x_bipush (v := (36)) (pc := 5) K dX1_bits_5 (by decide) ?_
    refine x_icmp_ge (pc := 7) K dX1_bits_7 (tgt := 25) (by decide) (fun c9 => ?_) (fun c9 => ?_)
    · have h := h.1 c9
      refine x_keep [false, true, false] rfl ?_
      exact k0 x2 h
    · have h := h.2 c9
      refine x_iload_n (pc := 10) K dX1_bits_10 1 rfl rfl ?_
      refine x_lload_n (pc := 11) K dX1_bits_11 0 rfl rfl ?_
      refine x_iload_n (pc := 12) K dX1_bits_12 2 rfl rfl ?_
      refine x_lshr (pc := 13) K dX1_bits_13 ?_
      refine x_lconst (v := (1)) (pc := 14) K dX1_bits_14 (by decide) ?_
      refine x_land (pc := 15) K dX1_bits_15 ?_
      refine x_l2i (pc := 16) K dX1_bits_16 ?_
      refine x_iadd (pc := 17) K dX1_bits_17 ?_
      obtain ⟨y1, ey1, h⟩ := xl_o h
      refine x_topi ey1 ?_
      clear ey1
      refine x_istore_n (lv' := [(0, .long u0), (2, .int y1), (3, .int x3)]) (pc := 18) K dX1_bits_18 rfl (by decide) rfl ?_
      refine x_iinc (v := x3 + (1 : Int32)) (lv' := [(0, .long u0), (2, .int y1), (3, .int (x3 + (1 : Int32)))]) (pc := 19) K dX1_bits_19 (k := 2) rfl rfl (by decide) rfl ?_
      refine x_goto (pc := 22) K dX1_bits_22 (tgt := 4) (by decide) ?_
      exact ih y1 (x3 + (1 : Int32)) h k0
set_option maxHeartbeats 4000000 in
set_option maxRecDepth 100000 in
theorem c_X1_bits (l : Launch) (D : va_G) (cI cJ cZ cA : ClassId) (p0 : Int64) (P : Int32 → Prop) (h : q_X1_bits p0 P) : xMi l yX1_bits wsX1_bits rm_X1_bits D vwCl (xtys cI cJ cZ cA) [] [.long p0] (σ := Unit) (fun _ => []) (fun r _ => P r) := by
  refine xMi_of (cc := cX1_bits) (maxL := 4) (by decide) rfl (Nat.le_of_ble_eq_true rfl) ?_
  intro X K hE
  have K : xk X l rm_X1_bits D vwCl (xtys cI cJ cZ cA) cX1_bits RX1 wsX1_bits 4 := K
  unfold q_X1_bits at h
  refine x_iconst (v := (0)) (pc := 0) K dX1_bits_0 (by decide) ?_
  refine x_istore_n (lv' := [(0, .long p0), (2, .int (0 : Int32))]) (pc := 1) K dX1_bits_1 rfl (by decide) rfl ?_
  refine x_iconst (v := (0)) (pc := 2) K dX1_bits_2 (by decide) ?_
  refine x_istore_n (lv' := [(0, .long p0), (2, .int (0 : Int32)), (3, .int (0 : Int32))]) (pc := 3) K dX1_bits_3 rfl (by decide) rfl ?_
  obtain ⟨n2, h⟩ := h
  refine w_X1_bits_L4 K p0 _ n2 (0 : Int32) (0 : Int32) h (fun v3 h => ?_)
  refine x_iload_n (pc := 25) K dX1_bits_25 0 rfl rfl ?_
  exact hE v3 () _ _ h dX1_bits_26
abbrev rm_X1_spread : Room := { frames := 8, cells := 0, slots := 0, locals := 120 }
theorem kX1_spread_0 : Cond.constantLong RX1 37 (-34905131041) ∈ wsX1_spread := by decide +kernel
theorem kX1_spread_1 : Cond.constantLong RX1 39 (-1090785346) ∈ wsX1_spread := by decide +kernel
theorem kX1_spread_2 : Cond.constantLong RX1 41 (68719476735) ∈ wsX1_spread := by decide +kernel
def q_X1_spread (p0 : Int64) (P : Int64 → Prop) : Prop := P (((((p0 ||| (xlshl p0 (6 : Int32))) ||| (xlshr p0 (6 : Int32))) ||| (xlshl (p0 &&& (-34905131041 : Int64)) (1 : Int32))) ||| (xlshr (p0 &&& (-1090785346 : Int64)) (1 : Int32))) &&& (68719476735 : Int64))
set_option maxHeartbeats 4000000 in
set_option maxRecDepth 100000 in
theorem c_X1_spread (l : Launch) (D : va_G) (cI cJ cZ cA : ClassId) (p0 : Int64) (P : Int64 → Prop) (h : q_X1_spread p0 P) : xMl l yX1_spread wsX1_spread rm_X1_spread D vwCl (xtys cI cJ cZ cA) [] [.long p0] (σ := Unit) (fun _ => []) (fun r _ => P r) := by
  refine xMl_of (cc := cX1_spread) (maxL := 2) (by decide) rfl (Nat.le_of_ble_eq_true rfl) ?_
  intro X K hE
  have K : xk X l rm_X1_spread D vwCl (xtys cI cJ cZ cA) cX1_spread RX1 wsX1_spread 2 := K
  unfold q_X1_spread at h
  refine x_lload_n (pc := 0) K dX1_spread_0 0 rfl rfl ?_
  refine x_lload_n (pc := 1) K dX1_spread_1 0 rfl rfl ?_
  refine x_bipush (v := (6)) (pc := 2) K dX1_spread_2 (by decide) ?_
  refine x_lshl (pc := 4) K dX1_spread_4 ?_
  refine x_lor (pc := 5) K dX1_spread_5 ?_
  refine x_lload_n (pc := 6) K dX1_spread_6 0 rfl rfl ?_
  refine x_bipush (v := (6)) (pc := 7) K dX1_spread_7 (by decide) ?_
  refine x_lshr (pc := 9) K dX1_spread_9 ?_
  refine x_lor (pc := 10) K dX1_spread_10 ?_
  refine x_lload_n (pc := 11) K dX1_spread_11 0 rfl rfl ?_
  refine x_ldc2 (pc := 12) (v := (-34905131041)) K kX1_spread_0 dX1_spread_12 ?_
  refine x_land (pc := 15) K dX1_spread_15 ?_
  refine x_iconst (v := (1)) (pc := 16) K dX1_spread_16 (by decide) ?_
  refine x_lshl (pc := 17) K dX1_spread_17 ?_
  refine x_lor (pc := 18) K dX1_spread_18 ?_
  refine x_lload_n (pc := 19) K dX1_spread_19 0 rfl rfl ?_
  refine x_ldc2 (pc := 20) (v := (-1090785346)) K kX1_spread_1 dX1_spread_20 ?_
  refine x_land (pc := 23) K dX1_spread_23 ?_
  refine x_iconst (v := (1)) (pc := 24) K dX1_spread_24 (by decide) ?_
  refine x_lshr (pc := 25) K dX1_spread_25 ?_
  refine x_lor (pc := 26) K dX1_spread_26 ?_
  refine x_ldc2 (pc := 27) (v := (68719476735)) K kX1_spread_2 dX1_spread_27 ?_
  refine x_land (pc := 30) K dX1_spread_30 ?_
  exact hE (((((p0 ||| (xlshl p0 (6 : Int32))) ||| (xlshr p0 (6 : Int32))) ||| (xlshl (p0 &&& (-34905131041 : Int64)) (1 : Int32))) ||| (xlshr (p0 &&& (-1090785346 : Int64)) (1 : Int32))) &&& (68719476735 : Int64)) () _ _ h dX1_spread_31
abbrev rm_X1_reach : Room := { frames := 9, cells := 0, slots := 0, locals := 160 }
def q_X1_reach_L8 (u2 : Int64) (P0 : Int64 → Prop) : Nat → Int64 → Int64 → Prop
  | 0, _, _ => False
  | n + 1, x4, x6 => (((lg_cmp x6 x4) = (0 : Int32) → P0 x6) ∧ (¬ (lg_cmp x6 x4) = (0 : Int32) → q_X1_spread x6 (fun (r2 : Int64) => xl (r2 &&& u2) (fun y3 => q_X1_reach_L8 u2 P0 n x6 y3))))
def q_X1_reach (p0 : Int64) (p2 : Int64) (P : Int64 → Prop) : Prop := xl (p0 &&& p2) (fun y1 => (∃ n4 : Nat, q_X1_reach_L8 p2 (fun (v5 : Int64) => P v5) n4 (0 : Int64) y1))
set_option maxHeartbeats 4000000 in
set_option maxRecDepth 100000 in
theorem w_X1_reach_L8 {X : xC} {l : Launch} {D : va_G} {cI cJ cZ cA : ClassId} (K : xk X l rm_X1_reach D vwCl (xtys cI cJ cZ cA) cX1_reach RX1 wsX1_reach 8) (u2 : Int64) (P0 : Int64 → Prop) : ∀ (n : Nat) (x4 : Int64) (x6 : Int64), q_X1_reach_L8 u2 P0 n x4 x6 → (∀ (z0 : Int64), P0 z0 → xw X 0 0 32 [(6, .long z0)] [] []) → xw X 0 0 8 [(2, .long u2), (4, .long x4), (6, .long x6)] [] [] := by
  intro n
  induction n with
  | zero =>
    intro x4 x6 h
    rw [q_X1_reach_L8] at h
    exact h.elim
  | succ n ih =>
    intro x4 x6 h k0
    rw [q_X1_reach_L8] at h
    refine x_lload (pc := 8) K dX1_reach_8 2 rfl ?_
    refine x_lload (pc := 10) K dX1_reach_10 1 rfl ?_
    refine x_lcmp (pc := 12) K dX1_reach_12 ?_
    refine x_if_eq (pc := 13) K dX1_reach_13 (tgt := 32) (by decide) (fun c9 => ?_) (fun c9 => ?_)
    · have h := h.1 c9
      refine x_keep [false, false, true] rfl ?_
      exact k0 x6 h
    · have h := h.2 c9
      refine x_keep [true, false, true] rfl ?_
      refine x_lload (pc := 16) K dX1_reach_16 1 rfl ?_
      refine x_lstore (lv' := [(2, .long u2), (4, .long x6), (6, .long x6)]) (pc := 18) K dX1_reach_18 (by decide) rfl ?_
      refine x_lload (pc := 20) K dX1_reach_20 2 rfl ?_
      refine x_pcallSl (pc := 22) (n := 1) K (c_X1_spread l D cI cJ cZ cA x6 _ h) rfl rfl gX1_reach_X1_spread rfl (by decide +kernel) ⟨Nat.le_of_ble_eq_true rfl, Nat.le_of_ble_eq_true rfl⟩ rfl (av := [.long x6]) rfl (Nat.le_of_ble_eq_true rfl) dX1_reach_22 ⟨Nat.le_of_ble_eq_true rfl, Nat.le_of_ble_eq_true rfl⟩ (fun r2 u9 h => ?_)
      refine x_lload_n (pc := 25) K dX1_reach_25 0 rfl rfl ?_
      refine x_land (pc := 26) K dX1_reach_26 ?_
      obtain ⟨y3, ey3, h⟩ := xl_o h
      refine x_topl ey3 ?_
      clear ey3
      refine x_lstore (lv' := [(2, .long u2), (4, .long x6), (6, .long y3)]) (pc := 27) K dX1_reach_27 (by decide) rfl ?_
      refine x_goto (pc := 29) K dX1_reach_29 (tgt := 8) (by decide) ?_
      exact ih x6 y3 h k0
set_option maxHeartbeats 4000000 in
set_option maxRecDepth 100000 in
theorem c_X1_reach (l : Launch) (D : va_G) (cI cJ cZ cA : ClassId) (p0 : Int64) (p2 : Int64) (P : Int64 → Prop) (h : q_X1_reach p0 p2 P) : xMl l yX1_reach wsX1_reach rm_X1_reach D vwCl (xtys cI cJ cZ cA) [] [.long p0, .long p2] (σ := Unit) (fun _ => []) (fun r _ => P r) := by
  refine xMl_of (cc := cX1_reach) (maxL := 8) (by decide) rfl (Nat.le_of_ble_eq_true rfl) ?_
  intro X K hE
  have K : xk X l rm_X1_reach D vwCl (xtys cI cJ cZ cA) cX1_reach RX1 wsX1_reach 8 := K
  unfold q_X1_reach at h
  refine x_lconst (v := (0)) (pc := 0) K dX1_reach_0 (by decide) ?_
  refine x_lstore (lv' := [(0, .long p0), (2, .long p2), (4, .long (0 : Int64))]) (pc := 1) K dX1_reach_1 (by decide) rfl ?_
  refine x_lload_n (pc := 3) K dX1_reach_3 0 rfl rfl ?_
  refine x_lload_n (pc := 4) K dX1_reach_4 1 rfl rfl ?_
  refine x_land (pc := 5) K dX1_reach_5 ?_
  obtain ⟨y1, ey1, h⟩ := xl_o h
  refine x_topl ey1 ?_
  clear ey1
  refine x_lstore (lv' := [(0, .long p0), (2, .long p2), (4, .long (0 : Int64)), (6, .long y1)]) (pc := 6) K dX1_reach_6 (by decide) rfl ?_
  refine x_keep [false, true, true, true] rfl ?_
  obtain ⟨n4, h⟩ := h
  refine w_X1_reach_L8 K p2 _ n4 (0 : Int64) y1 h (fun v5 h => ?_)
  refine x_lload (pc := 32) K dX1_reach_32 0 rfl ?_
  exact hE v5 () _ _ h dX1_reach_34
abbrev rm_X1_looks : Room := { frames := 9, cells := 0, slots := 0, locals := 160 }
theorem inX1_looks : ∀ w ∈ u_ws RX1 TX1 8, w ∈ wsX1_looks := by decide +kernel
theorem kX1_looks_0 : Cond.fieldLink RX1 47 "FourTintsModel" "there" "I" ∈ wsX1_looks := by decide +kernel
theorem kX1_looks_1 : Cond.fieldLink RX1 16 "FourTintsModel" "cells" "[J" ∈ wsX1_looks := by decide +kernel
theorem kX1_looks_2 : Cond.fieldLink RX1 9 "FourTintsModel" "cell" "[I" ∈ wsX1_looks := by decide +kernel
theorem kX1_looks_3 : Cond.fieldLink RX1 20 "FourTintsModel" "near" "[I" ∈ wsX1_looks := by decide +kernel
def q_X1_looks_L22 (u1 : Int32) (cel : Nat → Int32) (P0 : (Nat → Int64) → Prop) : Nat → Int32 → (Nat → Int64) → Prop
  | 0, _, _ => False
  | n + 1, x2, cells => (((36 : Int32) ≤ x2 → P0 cells) ∧ (¬ (36 : Int32) ≤ x2 → xin u1 10 = true ∧ xin x2 36 = true ∧ ((¬ (cel x2.toNatClampNeg) = u1 → xin u1 10 = true ∧ q_X1_looks_L22 u1 cel P0 n (x2 + (1 : Int32)) (vp_updL cells u1.toNatClampNeg ((cells u1.toNatClampNeg) ||| (0 : Int64)))) ∧ ((cel x2.toNatClampNeg) = u1 → xin u1 10 = true ∧ q_X1_looks_L22 u1 cel P0 n (x2 + (1 : Int32)) (vp_updL cells u1.toNatClampNeg ((cells u1.toNatClampNeg) ||| (xlshl (1 : Int64) x2)))))))
def q_X1_looks_L7 (cel : Nat → Int32) (P0 : (Nat → Int64) → Int32 → Prop) : Nat → Int32 → (Nat → Int64) → Int32 → Prop
  | 0, _, _, _ => False
  | n + 1, x1, cells, there => (((10 : Int32) ≤ x1 → P0 cells there) ∧ (¬ (10 : Int32) ≤ x1 → xin x1 10 = true ∧ (∃ n4 : Nat, q_X1_looks_L22 x1 cel (fun (v5 : Nat → Int64) => xin x1 10 = true ∧ ((¬ (lg_cmp (v5 x1.toNatClampNeg) (0 : Int64)) = (0 : Int32) → q_X1_looks_L7 cel P0 n (x1 + (1 : Int32)) v5 (there ||| ((1 : Int32) <<< (x1 &&& 31)))) ∧ ((lg_cmp (v5 x1.toNatClampNeg) (0 : Int64)) = (0 : Int32) → q_X1_looks_L7 cel P0 n (x1 + (1 : Int32)) v5 (there ||| (0 : Int32))))) n4 (0 : Int32) (vp_updL cells x1.toNatClampNeg (0 : Int64)))))
def q_X1_looks_L110 (u1 : Int32) (cells : Nat → Int64) (P0 : (Nat → Int32) → Prop) : Nat → Int32 → (Nat → Int32) → Prop
  | 0, _, _ => False
  | n + 1, x2, near => (((10 : Int32) ≤ x2 → P0 near) ∧ (¬ (10 : Int32) ≤ x2 → xin u1 10 = true ∧ ((x2 = u1 → xin u1 10 = true ∧ q_X1_looks_L110 u1 cells P0 n (x2 + (1 : Int32)) (upd near u1.toNatClampNeg ((near u1.toNatClampNeg) ||| (0 : Int32)))) ∧ (¬ x2 = u1 → xin u1 10 = true ∧ q_X1_spread (cells u1.toNatClampNeg) (fun (r11 : Int64) => xin x2 10 = true ∧ (((lg_cmp (r11 &&& (cells x2.toNatClampNeg)) (0 : Int64)) = (0 : Int32) → xin u1 10 = true ∧ q_X1_looks_L110 u1 cells P0 n (x2 + (1 : Int32)) (upd near u1.toNatClampNeg ((near u1.toNatClampNeg) ||| (0 : Int32)))) ∧ (¬ (lg_cmp (r11 &&& (cells x2.toNatClampNeg)) (0 : Int64)) = (0 : Int32) → xin u1 10 = true ∧ q_X1_looks_L110 u1 cells P0 n (x2 + (1 : Int32)) (upd near u1.toNatClampNeg ((near u1.toNatClampNeg) ||| ((1 : Int32) <<< (x2 &&& 31)))))))))))
def q_X1_looks_L95 (cells : Nat → Int64) (P0 : (Nat → Int32) → Prop) : Nat → Int32 → (Nat → Int32) → Prop
  | 0, _, _ => False
  | n + 1, x1, near => (((10 : Int32) ≤ x1 → P0 near) ∧ (¬ (10 : Int32) ≤ x1 → xin x1 10 = true ∧ (∃ n14 : Nat, q_X1_looks_L110 x1 cells (fun (v15 : Nat → Int32) => q_X1_looks_L95 cells P0 n (x1 + (1 : Int32)) v15) n14 (0 : Int32) (upd near x1.toNatClampNeg (0 : Int32)))))
def q_X1_looks (cel : Nat → Int32) (cells : Nat → Int64) (near : Nat → Int32) (P : (Nat → Int64) → (Nat → Int32) → Int32 → Prop) : Prop := (∃ n6 : Nat, q_X1_looks_L7 cel (fun (v7 : Nat → Int64) (v8 : Int32) => (∃ n16 : Nat, q_X1_looks_L95 v7 (fun (v17 : Nat → Int32) => P v7 v17 v8) n16 (0 : Int32) near)) n6 (0 : Int32) cells (0 : Int32))
set_option maxHeartbeats 4000000 in
set_option maxRecDepth 100000 in
theorem w_X1_looks_L22 {X : xC} {l : Launch} {D : va_G} {cI cJ cZ cA : ClassId} {V : Nat → Nat} (K : xk X l rm_X1_looks D vwCl (xtys cI cJ cZ cA) cX1_looks RX1 wsX1_looks 3) (u1 : Int32) (cel : Nat → Int32) (tint : Nat → Int32) (near : Nat → Int32) (there : Int32) (ways : Nat → Int64) (more : Nat → Int64) (thrown : Int32) (P0 : (Nat → Int64) → Prop) : ∀ (n : Nat) (x2 : Int32) (cells : Nat → Int64), q_X1_looks_L22 u1 cel P0 n x2 cells → (∀ (z0 : Nat → Int64), P0 z0 → xw X 0 0 60 [(0, .ref (V 0)), (1, .int u1)] [] (wX1 cI cJ cZ cA V cel tint z0 near there ways more thrown)) → xw X 0 0 22 [(0, .ref (V 0)), (1, .int u1), (2, .int x2)] [] (wX1 cI cJ cZ cA V cel tint cells near there ways more thrown) := by
  intro n
  induction n with
  | zero =>
    intro x2 cells h
    rw [q_X1_looks_L22] at h
    exact h.elim
  | succ n ih =>
    intro x2 cells h k0
    rw [q_X1_looks_L22] at h
    refine x_iload_n (pc := 22) K dX1_looks_22 2 rfl rfl ?_
    refine x_bipush (v := (36)) (pc := 23) K dX1_looks_23 (by decide) ?_
    refine x_icmp_ge (pc := 25) K dX1_looks_25 (tgt := 60) (by decide) (fun c9 => ?_) (fun c9 => ?_)
    · have h := h.1 c9
      refine x_keep [true, true, false] rfl ?_
      exact k0 cells h
    · have h := h.2 c9
      refine x_aload_n (pc := 28) K dX1_looks_28 0 rfl rfl ?_
      refine x_get (pc := 29) (ci := 1) (C := RX1) (T := TX1) (N := 8) K (inX1_looks) 0 rfl rfl 2 (by decide) kX1_looks_1 rfl rfl dX1_looks_29 ?_
      refine x_iload_n (pc := 32) K dX1_looks_32 1 rfl rfl ?_
      refine x_dup2 (pc := 33) K dX1_looks_33 rfl rfl ?_
      have g9 := h.1
      replace h := h.2
      refine x_lald (pc := 34) K 3 1 rfl rfl g9 dX1_looks_34 ?_
      clear g9
      refine x_aload_n (pc := 35) K dX1_looks_35 0 rfl rfl ?_
      refine x_get (pc := 36) (ci := 1) (C := RX1) (T := TX1) (N := 8) K (inX1_looks) 0 rfl rfl 0 (by decide) kX1_looks_2 rfl rfl dX1_looks_36 ?_
      refine x_iload_n (pc := 39) K dX1_looks_39 2 rfl rfl ?_
      have g9 := h.1
      replace h := h.2
      refine x_iald (pc := 40) K 1 0 rfl rfl g9 dX1_looks_40 ?_
      clear g9
      refine x_iload_n (pc := 41) K dX1_looks_41 1 rfl rfl ?_
      refine x_icmp_ne (pc := 42) K dX1_looks_42 (tgt := 51) (by decide) (fun c9 => ?_) (fun c9 => ?_)
      · have h := h.1 c9
        refine x_lconst (v := (0)) (pc := 51) K dX1_looks_51 (by decide) ?_
        refine x_lor (pc := 52) K dX1_looks_52 ?_
        have g9 := h.1
        replace h := h.2
        refine x_last (ws' := (wX1 cI cJ cZ cA V cel tint (vp_updL cells u1.toNatClampNeg ((cells u1.toNatClampNeg) ||| (0 : Int64))) near there ways more thrown)) (pc := 53) K 3 1 rfl rfl rfl g9 dX1_looks_53 ?_
        clear g9
        refine x_iinc (v := x2 + (1 : Int32)) (lv' := [(0, .ref (V 0)), (1, .int u1), (2, .int (x2 + (1 : Int32)))]) (pc := 54) K dX1_looks_54 (k := 2) rfl rfl (by decide) rfl ?_
        refine x_goto (pc := 57) K dX1_looks_57 (tgt := 22) (by decide) ?_
        exact ih (x2 + (1 : Int32)) (vp_updL cells u1.toNatClampNeg ((cells u1.toNatClampNeg) ||| (0 : Int64))) h k0
      · have h := h.2 c9
        refine x_lconst (v := (1)) (pc := 45) K dX1_looks_45 (by decide) ?_
        refine x_iload_n (pc := 46) K dX1_looks_46 2 rfl rfl ?_
        refine x_lshl (pc := 47) K dX1_looks_47 ?_
        refine x_goto (pc := 48) K dX1_looks_48 (tgt := 52) (by decide) ?_
        refine x_lor (pc := 52) K dX1_looks_52 ?_
        have g9 := h.1
        replace h := h.2
        refine x_last (ws' := (wX1 cI cJ cZ cA V cel tint (vp_updL cells u1.toNatClampNeg ((cells u1.toNatClampNeg) ||| (xlshl (1 : Int64) x2))) near there ways more thrown)) (pc := 53) K 3 1 rfl rfl rfl g9 dX1_looks_53 ?_
        clear g9
        refine x_iinc (v := x2 + (1 : Int32)) (lv' := [(0, .ref (V 0)), (1, .int u1), (2, .int (x2 + (1 : Int32)))]) (pc := 54) K dX1_looks_54 (k := 2) rfl rfl (by decide) rfl ?_
        refine x_goto (pc := 57) K dX1_looks_57 (tgt := 22) (by decide) ?_
        exact ih (x2 + (1 : Int32)) (vp_updL cells u1.toNatClampNeg ((cells u1.toNatClampNeg) ||| (xlshl (1 : Int64) x2))) h k0
set_option maxHeartbeats 4000000 in
set_option maxRecDepth 100000 in
theorem w_X1_looks_L7 {X : xC} {l : Launch} {D : va_G} {cI cJ cZ cA : ClassId} {V : Nat → Nat} (K : xk X l rm_X1_looks D vwCl (xtys cI cJ cZ cA) cX1_looks RX1 wsX1_looks 3) (cel : Nat → Int32) (tint : Nat → Int32) (near : Nat → Int32) (ways : Nat → Int64) (more : Nat → Int64) (thrown : Int32) (P0 : (Nat → Int64) → Int32 → Prop) : ∀ (n : Nat) (x1 : Int32) (cells : Nat → Int64) (there : Int32), q_X1_looks_L7 cel P0 n x1 cells there → (∀ (z0 : Nat → Int64) (z1 : Int32), P0 z0 z1 → xw X 0 0 93 [(0, .ref (V 0))] [] (wX1 cI cJ cZ cA V cel tint z0 near z1 ways more thrown)) → xw X 0 0 7 [(0, .ref (V 0)), (1, .int x1)] [] (wX1 cI cJ cZ cA V cel tint cells near there ways more thrown) := by
  intro n
  induction n with
  | zero =>
    intro x1 cells there h
    rw [q_X1_looks_L7] at h
    exact h.elim
  | succ n ih =>
    intro x1 cells there h k0
    rw [q_X1_looks_L7] at h
    refine x_iload_n (pc := 7) K dX1_looks_7 1 rfl rfl ?_
    refine x_bipush (v := (10)) (pc := 8) K dX1_looks_8 (by decide) ?_
    refine x_icmp_ge (pc := 10) K dX1_looks_10 (tgt := 93) (by decide) (fun c9 => ?_) (fun c9 => ?_)
    · have h := h.1 c9
      refine x_keep [true, false] rfl ?_
      exact k0 cells there h
    · have h := h.2 c9
      refine x_aload_n (pc := 13) K dX1_looks_13 0 rfl rfl ?_
      refine x_get (pc := 14) (ci := 1) (C := RX1) (T := TX1) (N := 8) K (inX1_looks) 0 rfl rfl 2 (by decide) kX1_looks_1 rfl rfl dX1_looks_14 ?_
      refine x_iload_n (pc := 17) K dX1_looks_17 1 rfl rfl ?_
      refine x_lconst (v := (0)) (pc := 18) K dX1_looks_18 (by decide) ?_
      have g9 := h.1
      replace h := h.2
      refine x_last (ws' := (wX1 cI cJ cZ cA V cel tint (vp_updL cells x1.toNatClampNeg (0 : Int64)) near there ways more thrown)) (pc := 19) K 3 1 rfl rfl rfl g9 dX1_looks_19 ?_
      clear g9
      refine x_iconst (v := (0)) (pc := 20) K dX1_looks_20 (by decide) ?_
      refine x_istore_n (lv' := [(0, .ref (V 0)), (1, .int x1), (2, .int (0 : Int32))]) (pc := 21) K dX1_looks_21 rfl (by decide) rfl ?_
      obtain ⟨n4, h⟩ := h
      refine w_X1_looks_L22 K x1 cel tint near there ways more thrown _ n4 (0 : Int32) (vp_updL cells x1.toNatClampNeg (0 : Int64)) h (fun v5 h => ?_)
      refine x_aload_n (pc := 60) K dX1_looks_60 0 rfl rfl ?_
      refine x_dup (pc := 61) K dX1_looks_61 rfl ?_
      refine x_get (pc := 62) (ci := 1) (C := RX1) (T := TX1) (N := 8) K (inX1_looks) 0 rfl rfl 4 (by decide) kX1_looks_0 rfl rfl dX1_looks_62 ?_
      refine x_aload_n (pc := 65) K dX1_looks_65 0 rfl rfl ?_
      refine x_get (pc := 66) (ci := 1) (C := RX1) (T := TX1) (N := 8) K (inX1_looks) 0 rfl rfl 2 (by decide) kX1_looks_1 rfl rfl dX1_looks_66 ?_
      refine x_iload_n (pc := 69) K dX1_looks_69 1 rfl rfl ?_
      have g9 := h.1
      replace h := h.2
      refine x_lald (pc := 70) K 3 1 rfl rfl g9 dX1_looks_70 ?_
      clear g9
      refine x_lconst (v := (0)) (pc := 71) K dX1_looks_71 (by decide) ?_
      refine x_lcmp (pc := 72) K dX1_looks_72 ?_
      refine x_if_ne (pc := 73) K dX1_looks_73 (tgt := 80) (by decide) (fun c9 => ?_) (fun c9 => ?_)
      · have h := h.1 c9
        refine x_iconst (v := (1)) (pc := 80) K dX1_looks_80 (by decide) ?_
        refine x_iload_n (pc := 81) K dX1_looks_81 1 rfl rfl ?_
        refine x_ishl (pc := 82) K dX1_looks_82 ?_
        refine x_ior (pc := 83) K dX1_looks_83 ?_
        refine x_put (ws' := (wX1 cI cJ cZ cA V cel tint v5 near (there ||| ((1 : Int32) <<< (x1 &&& 31))) ways more thrown)) (pc := 84) (ci := 1) (C := RX1) (T := TX1) (N := 8) (ty := .int) K (inX1_looks) tyX1 tyX1_ok nmX1 0 rfl rfl 4 (by decide) kX1_looks_0 rfl rfl rfl rfl rfl (Nat.le_of_ble_eq_true rfl) rfl dX1_looks_84 ?_
        refine x_iinc (v := x1 + (1 : Int32)) (lv' := [(0, .ref (V 0)), (1, .int (x1 + (1 : Int32)))]) (pc := 87) K dX1_looks_87 (k := 1) rfl rfl (by decide) rfl ?_
        refine x_goto (pc := 90) K dX1_looks_90 (tgt := 7) (by decide) ?_
        exact ih (x1 + (1 : Int32)) v5 (there ||| ((1 : Int32) <<< (x1 &&& 31))) h k0
      · have h := h.2 c9
        refine x_iconst (v := (0)) (pc := 76) K dX1_looks_76 (by decide) ?_
        refine x_goto (pc := 77) K dX1_looks_77 (tgt := 83) (by decide) ?_
        refine x_ior (pc := 83) K dX1_looks_83 ?_
        refine x_put (ws' := (wX1 cI cJ cZ cA V cel tint v5 near (there ||| (0 : Int32)) ways more thrown)) (pc := 84) (ci := 1) (C := RX1) (T := TX1) (N := 8) (ty := .int) K (inX1_looks) tyX1 tyX1_ok nmX1 0 rfl rfl 4 (by decide) kX1_looks_0 rfl rfl rfl rfl rfl (Nat.le_of_ble_eq_true rfl) rfl dX1_looks_84 ?_
        refine x_iinc (v := x1 + (1 : Int32)) (lv' := [(0, .ref (V 0)), (1, .int (x1 + (1 : Int32)))]) (pc := 87) K dX1_looks_87 (k := 1) rfl rfl (by decide) rfl ?_
        refine x_goto (pc := 90) K dX1_looks_90 (tgt := 7) (by decide) ?_
        exact ih (x1 + (1 : Int32)) v5 (there ||| (0 : Int32)) h k0
set_option maxHeartbeats 4000000 in
set_option maxRecDepth 100000 in
theorem w_X1_looks_L110 {X : xC} {l : Launch} {D : va_G} {cI cJ cZ cA : ClassId} {V : Nat → Nat} (K : xk X l rm_X1_looks D vwCl (xtys cI cJ cZ cA) cX1_looks RX1 wsX1_looks 3) (u1 : Int32) (cel : Nat → Int32) (tint : Nat → Int32) (cells : Nat → Int64) (there : Int32) (ways : Nat → Int64) (more : Nat → Int64) (thrown : Int32) (P0 : (Nat → Int32) → Prop) : ∀ (n : Nat) (x2 : Int32) (near : Nat → Int32), q_X1_looks_L110 u1 cells P0 n x2 near → (∀ (z0 : Nat → Int32), P0 z0 → xw X 0 0 164 [(0, .ref (V 0)), (1, .int u1)] [] (wX1 cI cJ cZ cA V cel tint cells z0 there ways more thrown)) → xw X 0 0 110 [(0, .ref (V 0)), (1, .int u1), (2, .int x2)] [] (wX1 cI cJ cZ cA V cel tint cells near there ways more thrown) := by
  intro n
  induction n with
  | zero =>
    intro x2 near h
    rw [q_X1_looks_L110] at h
    exact h.elim
  | succ n ih =>
    intro x2 near h k0
    rw [q_X1_looks_L110] at h
    refine x_iload_n (pc := 110) K dX1_looks_110 2 rfl rfl ?_
    refine x_bipush (v := (10)) (pc := 111) K dX1_looks_111 (by decide) ?_
    refine x_icmp_ge (pc := 113) K dX1_looks_113 (tgt := 164) (by decide) (fun c9 => ?_) (fun c9 => ?_)
    · have h := h.1 c9
      refine x_keep [true, true, false] rfl ?_
      exact k0 near h
    · have h := h.2 c9
      refine x_aload_n (pc := 116) K dX1_looks_116 0 rfl rfl ?_
      refine x_get (pc := 117) (ci := 1) (C := RX1) (T := TX1) (N := 8) K (inX1_looks) 0 rfl rfl 3 (by decide) kX1_looks_3 rfl rfl dX1_looks_117 ?_
      refine x_iload_n (pc := 120) K dX1_looks_120 1 rfl rfl ?_
      refine x_dup2 (pc := 121) K dX1_looks_121 rfl rfl ?_
      have g9 := h.1
      replace h := h.2
      refine x_iald (pc := 122) K 4 0 rfl rfl g9 dX1_looks_122 ?_
      clear g9
      refine x_iload_n (pc := 123) K dX1_looks_123 2 rfl rfl ?_
      refine x_iload_n (pc := 124) K dX1_looks_124 1 rfl rfl ?_
      refine x_icmp_eq (pc := 125) K dX1_looks_125 (tgt := 155) (by decide) (fun c9 => ?_) (fun c9 => ?_)
      · have h := h.1 c9
        refine x_iconst (v := (0)) (pc := 155) K dX1_looks_155 (by decide) ?_
        refine x_ior (pc := 156) K dX1_looks_156 ?_
        have g9 := h.1
        replace h := h.2
        refine x_iast (ws' := (wX1 cI cJ cZ cA V cel tint cells (upd near u1.toNatClampNeg ((near u1.toNatClampNeg) ||| (0 : Int32))) there ways more thrown)) (pc := 157) K 4 0 rfl rfl rfl g9 dX1_looks_157 ?_
        clear g9
        refine x_iinc (v := x2 + (1 : Int32)) (lv' := [(0, .ref (V 0)), (1, .int u1), (2, .int (x2 + (1 : Int32)))]) (pc := 158) K dX1_looks_158 (k := 2) rfl rfl (by decide) rfl ?_
        refine x_goto (pc := 161) K dX1_looks_161 (tgt := 110) (by decide) ?_
        exact ih (x2 + (1 : Int32)) (upd near u1.toNatClampNeg ((near u1.toNatClampNeg) ||| (0 : Int32))) h k0
      · have h := h.2 c9
        refine x_aload_n (pc := 128) K dX1_looks_128 0 rfl rfl ?_
        refine x_get (pc := 129) (ci := 1) (C := RX1) (T := TX1) (N := 8) K (inX1_looks) 0 rfl rfl 2 (by decide) kX1_looks_1 rfl rfl dX1_looks_129 ?_
        refine x_iload_n (pc := 132) K dX1_looks_132 1 rfl rfl ?_
        have g9 := h.1
        replace h := h.2
        refine x_lald (pc := 133) K 3 1 rfl rfl g9 dX1_looks_133 ?_
        clear g9
        refine x_pcallSl (pc := 134) (n := 1) K (c_X1_spread l D cI cJ cZ cA (cells u1.toNatClampNeg) _ h) rfl rfl gX1_looks_X1_spread rfl (by decide +kernel) ⟨Nat.le_of_ble_eq_true rfl, Nat.le_of_ble_eq_true rfl⟩ rfl (av := [.long (cells u1.toNatClampNeg)]) rfl (Nat.le_of_ble_eq_true rfl) dX1_looks_134 ⟨Nat.le_of_ble_eq_true rfl, Nat.le_of_ble_eq_true rfl⟩ (fun r11 u9 h => ?_)
        refine x_aload_n (pc := 137) K dX1_looks_137 0 rfl rfl ?_
        refine x_get (pc := 138) (ci := 1) (C := RX1) (T := TX1) (N := 8) K (inX1_looks) 0 rfl rfl 2 (by decide) kX1_looks_1 rfl rfl dX1_looks_138 ?_
        refine x_iload_n (pc := 141) K dX1_looks_141 2 rfl rfl ?_
        have g9 := h.1
        replace h := h.2
        refine x_lald (pc := 142) K 3 1 rfl rfl g9 dX1_looks_142 ?_
        clear g9
        refine x_land (pc := 143) K dX1_looks_143 ?_
        refine x_lconst (v := (0)) (pc := 144) K dX1_looks_144 (by decide) ?_
        refine x_lcmp (pc := 145) K dX1_looks_145 ?_
        refine x_if_eq (pc := 146) K dX1_looks_146 (tgt := 155) (by decide) (fun c9 => ?_) (fun c9 => ?_)
        · have h := h.1 c9
          refine x_iconst (v := (0)) (pc := 155) K dX1_looks_155 (by decide) ?_
          refine x_ior (pc := 156) K dX1_looks_156 ?_
          have g9 := h.1
          replace h := h.2
          refine x_iast (ws' := (wX1 cI cJ cZ cA V cel tint cells (upd near u1.toNatClampNeg ((near u1.toNatClampNeg) ||| (0 : Int32))) there ways more thrown)) (pc := 157) K 4 0 rfl rfl rfl g9 dX1_looks_157 ?_
          clear g9
          refine x_iinc (v := x2 + (1 : Int32)) (lv' := [(0, .ref (V 0)), (1, .int u1), (2, .int (x2 + (1 : Int32)))]) (pc := 158) K dX1_looks_158 (k := 2) rfl rfl (by decide) rfl ?_
          refine x_goto (pc := 161) K dX1_looks_161 (tgt := 110) (by decide) ?_
          exact ih (x2 + (1 : Int32)) (upd near u1.toNatClampNeg ((near u1.toNatClampNeg) ||| (0 : Int32))) h k0
        · have h := h.2 c9
          refine x_iconst (v := (1)) (pc := 149) K dX1_looks_149 (by decide) ?_
          refine x_iload_n (pc := 150) K dX1_looks_150 2 rfl rfl ?_
          refine x_ishl (pc := 151) K dX1_looks_151 ?_
          refine x_goto (pc := 152) K dX1_looks_152 (tgt := 156) (by decide) ?_
          refine x_ior (pc := 156) K dX1_looks_156 ?_
          have g9 := h.1
          replace h := h.2
          refine x_iast (ws' := (wX1 cI cJ cZ cA V cel tint cells (upd near u1.toNatClampNeg ((near u1.toNatClampNeg) ||| ((1 : Int32) <<< (x2 &&& 31)))) there ways more thrown)) (pc := 157) K 4 0 rfl rfl rfl g9 dX1_looks_157 ?_
          clear g9
          refine x_iinc (v := x2 + (1 : Int32)) (lv' := [(0, .ref (V 0)), (1, .int u1), (2, .int (x2 + (1 : Int32)))]) (pc := 158) K dX1_looks_158 (k := 2) rfl rfl (by decide) rfl ?_
          refine x_goto (pc := 161) K dX1_looks_161 (tgt := 110) (by decide) ?_
          exact ih (x2 + (1 : Int32)) (upd near u1.toNatClampNeg ((near u1.toNatClampNeg) ||| ((1 : Int32) <<< (x2 &&& 31)))) h k0
set_option maxHeartbeats 4000000 in
set_option maxRecDepth 100000 in
theorem w_X1_looks_L95 {X : xC} {l : Launch} {D : va_G} {cI cJ cZ cA : ClassId} {V : Nat → Nat} (K : xk X l rm_X1_looks D vwCl (xtys cI cJ cZ cA) cX1_looks RX1 wsX1_looks 3) (cel : Nat → Int32) (tint : Nat → Int32) (cells : Nat → Int64) (there : Int32) (ways : Nat → Int64) (more : Nat → Int64) (thrown : Int32) (P0 : (Nat → Int32) → Prop) : ∀ (n : Nat) (x1 : Int32) (near : Nat → Int32), q_X1_looks_L95 cells P0 n x1 near → (∀ (z0 : Nat → Int32), P0 z0 → xw X 0 0 170 [] [] (wX1 cI cJ cZ cA V cel tint cells z0 there ways more thrown)) → xw X 0 0 95 [(0, .ref (V 0)), (1, .int x1)] [] (wX1 cI cJ cZ cA V cel tint cells near there ways more thrown) := by
  intro n
  induction n with
  | zero =>
    intro x1 near h
    rw [q_X1_looks_L95] at h
    exact h.elim
  | succ n ih =>
    intro x1 near h k0
    rw [q_X1_looks_L95] at h
    refine x_iload_n (pc := 95) K dX1_looks_95 1 rfl rfl ?_
    refine x_bipush (v := (10)) (pc := 96) K dX1_looks_96 (by decide) ?_
    refine x_icmp_ge (pc := 98) K dX1_looks_98 (tgt := 170) (by decide) (fun c9 => ?_) (fun c9 => ?_)
    · have h := h.1 c9
      refine x_keep [false, false] rfl ?_
      exact k0 near h
    · have h := h.2 c9
      refine x_aload_n (pc := 101) K dX1_looks_101 0 rfl rfl ?_
      refine x_get (pc := 102) (ci := 1) (C := RX1) (T := TX1) (N := 8) K (inX1_looks) 0 rfl rfl 3 (by decide) kX1_looks_3 rfl rfl dX1_looks_102 ?_
      refine x_iload_n (pc := 105) K dX1_looks_105 1 rfl rfl ?_
      refine x_iconst (v := (0)) (pc := 106) K dX1_looks_106 (by decide) ?_
      have g9 := h.1
      replace h := h.2
      refine x_iast (ws' := (wX1 cI cJ cZ cA V cel tint cells (upd near x1.toNatClampNeg (0 : Int32)) there ways more thrown)) (pc := 107) K 4 0 rfl rfl rfl g9 dX1_looks_107 ?_
      clear g9
      refine x_iconst (v := (0)) (pc := 108) K dX1_looks_108 (by decide) ?_
      refine x_istore_n (lv' := [(0, .ref (V 0)), (1, .int x1), (2, .int (0 : Int32))]) (pc := 109) K dX1_looks_109 rfl (by decide) rfl ?_
      obtain ⟨n14, h⟩ := h
      refine w_X1_looks_L110 K x1 cel tint cells there ways more thrown _ n14 (0 : Int32) (upd near x1.toNatClampNeg (0 : Int32)) h (fun v15 h => ?_)
      refine x_iinc (v := x1 + (1 : Int32)) (lv' := [(0, .ref (V 0)), (1, .int (x1 + (1 : Int32)))]) (pc := 164) K dX1_looks_164 (k := 1) rfl rfl (by decide) rfl ?_
      refine x_goto (pc := 167) K dX1_looks_167 (tgt := 95) (by decide) ?_
      exact ih (x1 + (1 : Int32)) v15 h k0
set_option maxHeartbeats 4000000 in
set_option maxRecDepth 100000 in
theorem c_X1_looks (l : Launch) (D : va_G) (cI cJ cZ cA : ClassId) (V : Nat → Nat) (cel : Nat → Int32) (tint : Nat → Int32) (cells : Nat → Int64) (near : Nat → Int32) (there : Int32) (ways : Nat → Int64) (more : Nat → Int64) (thrown : Int32) (P : (Nat → Int64) → (Nat → Int32) → Int32 → Prop) (h : q_X1_looks cel cells near P) : xMv l yX1_looks wsX1_looks rm_X1_looks D vwCl (xtys cI cJ cZ cA) (wX1 cI cJ cZ cA V cel tint cells near there ways more thrown) [.ref (V 0)] (σ := (Nat → Int64) × (Nat → Int32) × Int32) (fun u => (wX1 cI cJ cZ cA V cel tint u.1 u.2.1 u.2.2 ways more thrown)) (fun u => P u.1 u.2.1 u.2.2) := by
  refine xMv_of (cc := cX1_looks) (maxL := 3) (by decide) rfl (Nat.le_of_ble_eq_true rfl) ?_
  intro X K hE
  have K : xk X l rm_X1_looks D vwCl (xtys cI cJ cZ cA) cX1_looks RX1 wsX1_looks 3 := K
  unfold q_X1_looks at h
  refine x_aload_n (pc := 0) K dX1_looks_0 0 rfl rfl ?_
  refine x_iconst (v := (0)) (pc := 1) K dX1_looks_1 (by decide) ?_
  refine x_put (ws' := (wX1 cI cJ cZ cA V cel tint cells near (0 : Int32) ways more thrown)) (pc := 2) (ci := 1) (C := RX1) (T := TX1) (N := 8) (ty := .int) K (inX1_looks) tyX1 tyX1_ok nmX1 0 rfl rfl 4 (by decide) kX1_looks_0 rfl rfl rfl rfl rfl (Nat.le_of_ble_eq_true rfl) rfl dX1_looks_2 ?_
  refine x_iconst (v := (0)) (pc := 5) K dX1_looks_5 (by decide) ?_
  refine x_istore_n (lv' := [(0, .ref (V 0)), (1, .int (0 : Int32))]) (pc := 6) K dX1_looks_6 rfl (by decide) rfl ?_
  obtain ⟨n6, h⟩ := h
  refine w_X1_looks_L7 K cel tint near ways more thrown _ n6 (0 : Int32) cells (0 : Int32) h (fun v7 v8 h => ?_)
  refine x_iconst (v := (0)) (pc := 93) K dX1_looks_93 (by decide) ?_
  refine x_istore_n (lv' := [(0, .ref (V 0)), (1, .int (0 : Int32))]) (pc := 94) K dX1_looks_94 rfl (by decide) rfl ?_
  obtain ⟨n16, h⟩ := h
  refine w_X1_looks_L95 K cel tint v7 v8 ways more thrown _ n16 (0 : Int32) near h (fun v17 h => ?_)
  exact hE (v7, v17, v8) _ _ h dX1_looks_170
abbrev rm_X1_isThere : Room := { frames := 8, cells := 0, slots := 0, locals := 120 }
theorem inX1_isThere : ∀ w ∈ u_ws RX1 TX1 8, w ∈ wsX1_isThere := by decide +kernel
theorem kX1_isThere_0 : Cond.fieldLink RX1 47 "FourTintsModel" "there" "I" ∈ wsX1_isThere := by decide +kernel
def q_X1_isThere (p1 : Int32) (there : Int32) (P : Int32 → Prop) : Prop := ((¬ ((there >>> (p1 &&& 31)) &&& (1 : Int32)) = (1 : Int32) → (xbool (0 : Int32) ∧ P (0 : Int32))) ∧ (((there >>> (p1 &&& 31)) &&& (1 : Int32)) = (1 : Int32) → (xbool (1 : Int32) ∧ P (1 : Int32))))
set_option maxHeartbeats 4000000 in
set_option maxRecDepth 100000 in
theorem c_X1_isThere (l : Launch) (D : va_G) (cI cJ cZ cA : ClassId) (V : Nat → Nat) (p1 : Int32) (cel : Nat → Int32) (tint : Nat → Int32) (cells : Nat → Int64) (near : Nat → Int32) (there : Int32) (ways : Nat → Int64) (more : Nat → Int64) (thrown : Int32) (P : Int32 → Prop) (h : q_X1_isThere p1 there P) : xMz l yX1_isThere wsX1_isThere rm_X1_isThere D vwCl (xtys cI cJ cZ cA) (wX1 cI cJ cZ cA V cel tint cells near there ways more thrown) [.ref (V 0), .int p1] (σ := Unit) (fun _ => (wX1 cI cJ cZ cA V cel tint cells near there ways more thrown)) (fun r _ => P r) := by
  refine xMz_of (cc := cX1_isThere) (maxL := 2) (by decide) rfl (Nat.le_of_ble_eq_true rfl) ?_
  intro X K hE
  have K : xk X l rm_X1_isThere D vwCl (xtys cI cJ cZ cA) cX1_isThere RX1 wsX1_isThere 2 := K
  unfold q_X1_isThere at h
  refine x_aload_n (pc := 0) K dX1_isThere_0 0 rfl rfl ?_
  refine x_get (pc := 1) (ci := 1) (C := RX1) (T := TX1) (N := 8) K (inX1_isThere) 0 rfl rfl 4 (by decide) kX1_isThere_0 rfl rfl dX1_isThere_1 ?_
  refine x_iload_n (pc := 4) K dX1_isThere_4 1 rfl rfl ?_
  refine x_ishr (pc := 5) K dX1_isThere_5 ?_
  refine x_iconst (v := (1)) (pc := 6) K dX1_isThere_6 (by decide) ?_
  refine x_iand (pc := 7) K dX1_isThere_7 ?_
  refine x_iconst (v := (1)) (pc := 8) K dX1_isThere_8 (by decide) ?_
  refine x_icmp_ne (pc := 9) K dX1_isThere_9 (tgt := 16) (by decide) (fun c9 => ?_) (fun c9 => ?_)
  · have h := h.1 c9
    refine x_keep [false, false] rfl ?_
    refine x_iconst (v := (0)) (pc := 16) K dX1_isThere_16 (by decide) ?_
    exact hE (0 : Int32) () _ _ h.2 h.1 dX1_isThere_17
  · have h := h.2 c9
    refine x_keep [false, false] rfl ?_
    refine x_iconst (v := (1)) (pc := 12) K dX1_isThere_12 (by decide) ?_
    refine x_goto (pc := 13) K dX1_isThere_13 (tgt := 17) (by decide) ?_
    exact hE (1 : Int32) () _ _ h.2 h.1 dX1_isThere_17
abbrev rm_X1_paints : Room := { frames := 8, cells := 0, slots := 0, locals := 120 }
theorem inX1_paints : ∀ w ∈ u_ws RX1 TX1 8, w ∈ wsX1_paints := by decide +kernel
theorem kX1_paints_0 : Cond.fieldLink RX1 9 "FourTintsModel" "cell" "[I" ∈ wsX1_paints := by decide +kernel
def q_X1_paints (p1 : Int32) (p2 : Int32) (cel : Nat → Int32) (P : Int32 → (Nat → Int32) → Prop) : Prop := xin p1 36 = true ∧ xl (cel p1.toNatClampNeg) (fun y1 => xin p1 36 = true ∧ ((¬ y1 = p2 → P (1 : Int32) (upd cel p1.toNatClampNeg p2)) ∧ (y1 = p2 → P (0 : Int32) (upd cel p1.toNatClampNeg p2))))
set_option maxHeartbeats 4000000 in
set_option maxRecDepth 100000 in
theorem c_X1_paints (l : Launch) (D : va_G) (cI cJ cZ cA : ClassId) (V : Nat → Nat) (p1 : Int32) (p2 : Int32) (cel : Nat → Int32) (tint : Nat → Int32) (cells : Nat → Int64) (near : Nat → Int32) (there : Int32) (ways : Nat → Int64) (more : Nat → Int64) (thrown : Int32) (P : Int32 → (Nat → Int32) → Prop) (h : q_X1_paints p1 p2 cel P) : xMi l yX1_paints wsX1_paints rm_X1_paints D vwCl (xtys cI cJ cZ cA) (wX1 cI cJ cZ cA V cel tint cells near there ways more thrown) [.ref (V 0), .int p1, .int p2] (σ := (Nat → Int32)) (fun u => (wX1 cI cJ cZ cA V u tint cells near there ways more thrown)) (fun r u => P r u) := by
  refine xMi_of (cc := cX1_paints) (maxL := 4) (by decide) rfl (Nat.le_of_ble_eq_true rfl) ?_
  intro X K hE
  have K : xk X l rm_X1_paints D vwCl (xtys cI cJ cZ cA) cX1_paints RX1 wsX1_paints 4 := K
  unfold q_X1_paints at h
  refine x_aload_n (pc := 0) K dX1_paints_0 0 rfl rfl ?_
  refine x_get (pc := 1) (ci := 1) (C := RX1) (T := TX1) (N := 8) K (inX1_paints) 0 rfl rfl 0 (by decide) kX1_paints_0 rfl rfl dX1_paints_1 ?_
  refine x_iload_n (pc := 4) K dX1_paints_4 1 rfl rfl ?_
  have g9 := h.1
  replace h := h.2
  refine x_iald (pc := 5) K 1 0 rfl rfl g9 dX1_paints_5 ?_
  clear g9
  obtain ⟨y1, ey1, h⟩ := xl_o h
  refine x_topi ey1 ?_
  clear ey1
  refine x_istore_n (lv' := [(0, .ref (V 0)), (1, .int p1), (2, .int p2), (3, .int y1)]) (pc := 6) K dX1_paints_6 rfl (by decide) rfl ?_
  refine x_aload_n (pc := 7) K dX1_paints_7 0 rfl rfl ?_
  refine x_get (pc := 8) (ci := 1) (C := RX1) (T := TX1) (N := 8) K (inX1_paints) 0 rfl rfl 0 (by decide) kX1_paints_0 rfl rfl dX1_paints_8 ?_
  refine x_iload_n (pc := 11) K dX1_paints_11 1 rfl rfl ?_
  refine x_iload_n (pc := 12) K dX1_paints_12 2 rfl rfl ?_
  have g9 := h.1
  replace h := h.2
  refine x_iast (ws' := (wX1 cI cJ cZ cA V (upd cel p1.toNatClampNeg p2) tint cells near there ways more thrown)) (pc := 13) K 1 0 rfl rfl rfl g9 dX1_paints_13 ?_
  clear g9
  refine x_iload_n (pc := 14) K dX1_paints_14 3 rfl rfl ?_
  refine x_iload_n (pc := 15) K dX1_paints_15 2 rfl rfl ?_
  refine x_icmp_ne (pc := 16) K dX1_paints_16 (tgt := 23) (by decide) (fun c9 => ?_) (fun c9 => ?_)
  · have h := h.1 c9
    refine x_keep [false, false, false, false] rfl ?_
    refine x_iconst (v := (1)) (pc := 23) K dX1_paints_23 (by decide) ?_
    exact hE (1 : Int32) (upd cel p1.toNatClampNeg p2) _ _ h dX1_paints_24
  · have h := h.2 c9
    refine x_keep [false, false, false, false] rfl ?_
    refine x_iconst (v := (0)) (pc := 19) K dX1_paints_19 (by decide) ?_
    refine x_goto (pc := 20) K dX1_paints_20 (tgt := 24) (by decide) ?_
    exact hE (0 : Int32) (upd cel p1.toNatClampNeg p2) _ _ h dX1_paints_24
abbrev rm_X1_paint : Room := { frames := 10, cells := 0, slots := 0, locals := 200 }
theorem inX1_paint : ∀ w ∈ u_ws RX1 TX1 8, w ∈ wsX1_paint := by decide +kernel
theorem kX1_paint_0 : Cond.fieldLink RX1 9 "FourTintsModel" "cell" "[I" ∈ wsX1_paint := by decide +kernel
def q_X1_paint (p1 : Int32) (p2 : Int32) (p3 : Int32) (cel : Nat → Int32) (P : Int32 → (Nat → Int32) → Int32 → Prop) : Prop := q_X1_isCell p1 p2 (fun (r1 : Int32) => xj1 (fun (v3 : Int32) => q_X1_goes r1 v3 (1 : Int32) (fun (r5 : Int32) (thrown_4 : Int32) => ((¬ r5 = (0 : Int32) → xin (((6 : Int32) * p1) + p2) 36 = true ∧ xl (cel (((6 : Int32) * p1) + p2).toNatClampNeg) (fun y6 => q_X1_paints (((6 : Int32) * p1) + p2) p3 cel (fun (r8 : Int32) (cel_7 : Nat → Int32) => P y6 cel_7 thrown_4))) ∧ (r5 = (0 : Int32) → P (0 : Int32) cel thrown_4)))) (fun (J2 : Int32 → Prop) => xj0 (J2 (1 : Int32)) (fun (J9 : Prop) => ((p3 = (-1 : Int32) → J9) ∧ (¬ p3 = (-1 : Int32) → q_X1_isCountry p3 (fun (r10 : Int32) => ((r10 = (0 : Int32) → J2 (0 : Int32)) ∧ (¬ r10 = (0 : Int32) → J9))))))))
set_option maxHeartbeats 4000000 in
set_option maxRecDepth 100000 in
theorem c_X1_paint (l : Launch) (D : va_G) (cI cJ cZ cA : ClassId) (V : Nat → Nat) (p1 : Int32) (p2 : Int32) (p3 : Int32) (cel : Nat → Int32) (tint : Nat → Int32) (cells : Nat → Int64) (near : Nat → Int32) (there : Int32) (ways : Nat → Int64) (more : Nat → Int64) (thrown : Int32) (P : Int32 → (Nat → Int32) → Int32 → Prop) (h : q_X1_paint p1 p2 p3 cel P) : xMi l yX1_paint wsX1_paint rm_X1_paint D vwCl (xtys cI cJ cZ cA) (wX1 cI cJ cZ cA V cel tint cells near there ways more thrown) [.ref (V 0), .int p1, .int p2, .int p3] (σ := (Nat → Int32) × Int32) (fun u => (wX1 cI cJ cZ cA V u.1 tint cells near there ways more u.2)) (fun r u => P r u.1 u.2) := by
  refine xMi_of (cc := cX1_paint) (maxL := 6) (by decide) rfl (Nat.le_of_ble_eq_true rfl) ?_
  intro X K hE
  have K : xk X l rm_X1_paint D vwCl (xtys cI cJ cZ cA) cX1_paint RX1 wsX1_paint 6 := K
  unfold q_X1_paint at h
  refine x_aload_n (pc := 0) K dX1_paint_0 0 rfl rfl ?_
  refine x_iload_n (pc := 1) K dX1_paint_1 1 rfl rfl ?_
  refine x_iload_n (pc := 2) K dX1_paint_2 2 rfl rfl ?_
  refine x_pcallSz (pc := 3) (n := 2) K (c_X1_isCell l D cI cJ cZ cA p1 p2 _ h) rfl rfl gX1_paint_X1_isCell rfl (by decide +kernel) ⟨Nat.le_of_ble_eq_true rfl, Nat.le_of_ble_eq_true rfl⟩ rfl (av := [.int p1, .int p2]) rfl (Nat.le_of_ble_eq_true rfl) dX1_paint_3 ⟨Nat.le_of_ble_eq_true rfl, Nat.le_of_ble_eq_true rfl⟩ (fun r1 u9 h => ?_)
  refine x_iload_n (pc := 6) K dX1_paint_6 3 rfl rfl ?_
  refine x_iconst (v := (-1)) (pc := 7) K dX1_paint_7 (by decide) ?_
  obtain ⟨J2, hJ2, h⟩ := xj1_o h
  have kJ2 : ∀ (v3 : Int32), J2 v3 → xw X 0 0 23 [(0, .ref (V 0)), (1, .int p1), (2, .int p2), (3, .int p3)] [.int v3, .int r1, .ref (V 0)] (wX1 cI cJ cZ cA V cel tint cells near there ways more thrown) := by
    intro v3 hj
    have h := hJ2 v3 hj
    refine x_iconst (v := (1)) (pc := 23) K dX1_paint_23 (by decide) ?_
    refine x_callVz (pc := 24) (n := 3) K (c_X1_goes l D cI cJ cZ cA V r1 v3 (1 : Int32) cel tint cells near there ways more thrown _ h) rfl rfl gX1_paint_X1_goes rfl (by decide +kernel) ⟨Nat.le_of_ble_eq_true rfl, Nat.le_of_ble_eq_true rfl⟩ rfl (av := [.int r1, .int v3, .int (1 : Int32)]) (b := V 0) (ci := 1) (q0 := 0) rfl rfl rfl (Nat.le_of_ble_eq_true rfl) [0, 1, 2, 3, 4, 5, 6] [] (wr := []) rfl rfl rfl rfl (by decide) dX1_paint_24 ⟨Nat.le_of_ble_eq_true rfl, Nat.le_of_ble_eq_true rfl⟩ (fun r5 thrown_4 h => ?_)
    refine x_ws (ws' := (wX1 cI cJ cZ cA V cel tint cells near there ways more thrown_4)) rfl ?_
    refine x_if_ne (pc := 27) K dX1_paint_27 (tgt := 32) (by decide) (fun c9 => ?_) (fun c9 => ?_)
    · have h := h.1 c9
      refine x_aload_n (pc := 32) K dX1_paint_32 0 rfl rfl ?_
      refine x_get (pc := 33) (ci := 1) (C := RX1) (T := TX1) (N := 8) K (inX1_paint) 0 rfl rfl 0 (by decide) kX1_paint_0 rfl rfl dX1_paint_33 ?_
      refine x_bipush (v := (6)) (pc := 36) K dX1_paint_36 (by decide) ?_
      refine x_iload_n (pc := 38) K dX1_paint_38 1 rfl rfl ?_
      refine x_imul (pc := 39) K dX1_paint_39 ?_
      refine x_iload_n (pc := 40) K dX1_paint_40 2 rfl rfl ?_
      refine x_iadd (pc := 41) K dX1_paint_41 ?_
      have g9 := h.1
      replace h := h.2
      refine x_iald (pc := 42) K 1 0 rfl rfl g9 dX1_paint_42 ?_
      clear g9
      obtain ⟨y6, ey6, h⟩ := xl_o h
      refine x_topi ey6 ?_
      clear ey6
      refine x_istore (lv' := [(0, .ref (V 0)), (1, .int p1), (2, .int p2), (3, .int p3), (4, .int y6)]) (pc := 43) K dX1_paint_43 (by decide) rfl ?_
      refine x_aload_n (pc := 45) K dX1_paint_45 0 rfl rfl ?_
      refine x_bipush (v := (6)) (pc := 46) K dX1_paint_46 (by decide) ?_
      refine x_iload_n (pc := 48) K dX1_paint_48 1 rfl rfl ?_
      refine x_imul (pc := 49) K dX1_paint_49 ?_
      refine x_iload_n (pc := 50) K dX1_paint_50 2 rfl rfl ?_
      refine x_iadd (pc := 51) K dX1_paint_51 ?_
      refine x_iload_n (pc := 52) K dX1_paint_52 3 rfl rfl ?_
      refine x_callVi (pc := 53) (n := 2) K (c_X1_paints l D cI cJ cZ cA V (((6 : Int32) * p1) + p2) p3 cel tint cells near there ways more thrown_4 _ h) rfl rfl gX1_paint_X1_paints rfl (by decide +kernel) ⟨Nat.le_of_ble_eq_true rfl, Nat.le_of_ble_eq_true rfl⟩ rfl (av := [.int (((6 : Int32) * p1) + p2), .int p3]) (b := V 0) (ci := 1) (q0 := 0) rfl rfl rfl (Nat.le_of_ble_eq_true rfl) [0, 1, 2, 3, 4, 5, 6] [] (wr := []) rfl rfl rfl rfl (by decide) dX1_paint_53 ⟨Nat.le_of_ble_eq_true rfl, Nat.le_of_ble_eq_true rfl⟩ (fun r8 cel_7 h => ?_)
      refine x_ws (ws' := (wX1 cI cJ cZ cA V cel_7 tint cells near there ways more thrown_4)) rfl ?_
      refine x_istore (lv' := [(0, .ref (V 0)), (1, .int p1), (2, .int p2), (3, .int p3), (4, .int y6), (5, .int r8)]) (pc := 56) K dX1_paint_56 (by decide) rfl ?_
      refine x_iload (pc := 58) K dX1_paint_58 4 rfl ?_
      exact hE y6 (cel_7, thrown_4) _ _ h dX1_paint_60
    · have h := h.2 c9
      refine x_keep [false, false, false, false] rfl ?_
      refine x_iconst (v := (0)) (pc := 30) K dX1_paint_30 (by decide) ?_
      exact hE (0 : Int32) (cel, thrown_4) _ _ h dX1_paint_31
  obtain ⟨J9, hJ9, h⟩ := xj0_o h
  have kJ9 : J9 → xw X 0 0 18 [(0, .ref (V 0)), (1, .int p1), (2, .int p2), (3, .int p3)] [.int r1, .ref (V 0)] (wX1 cI cJ cZ cA V cel tint cells near there ways more thrown) := by
    intro  hj
    have h := hJ9  hj
    refine x_iconst (v := (1)) (pc := 18) K dX1_paint_18 (by decide) ?_
    refine x_goto (pc := 19) K dX1_paint_19 (tgt := 23) (by decide) ?_
    exact kJ2 (1 : Int32) h
  refine x_icmp_eq (pc := 8) K dX1_paint_8 (tgt := 18) (by decide) (fun c9 => ?_) (fun c9 => ?_)
  · have h := h.1 c9
    exact kJ9  h
  · have h := h.2 c9
    refine x_iload_n (pc := 11) K dX1_paint_11 3 rfl rfl ?_
    refine x_pcallSz (pc := 12) (n := 1) K (c_X1_isCountry l D cI cJ cZ cA p3 _ h) rfl rfl gX1_paint_X1_isCountry rfl (by decide +kernel) ⟨Nat.le_of_ble_eq_true rfl, Nat.le_of_ble_eq_true rfl⟩ rfl (av := [.int p3]) rfl (Nat.le_of_ble_eq_true rfl) dX1_paint_12 ⟨Nat.le_of_ble_eq_true rfl, Nat.le_of_ble_eq_true rfl⟩ (fun r10 u9 h => ?_)
    refine x_if_eq (pc := 15) K dX1_paint_15 (tgt := 22) (by decide) (fun c9 => ?_) (fun c9 => ?_)
    · have h := h.1 c9
      refine x_iconst (v := (0)) (pc := 22) K dX1_paint_22 (by decide) ?_
      exact kJ2 (0 : Int32) h
    · have h := h.2 c9
      exact kJ9  h
abbrev rm_X1_paintBlock : Room := { frames := 10, cells := 0, slots := 0, locals := 200 }
def q_X1_paintBlock_L72 (u1 : Int32) (u2 : Int32) (u3 : Int32) (u4 : Int32) (u5 : Int32) (P0 : Int32 → (Nat → Int32) → Prop) : Nat → Int32 → Int32 → (Nat → Int32) → Prop
  | 0, _, _, _ => False
  | n + 1, x7, x8, cel => (((36 : Int32) ≤ x8 → P0 x7 cel) ∧ (¬ (36 : Int32) ≤ x8 → q_X1_in (x8 / (6 : Int32)) u1 u3 (fun (r8 : Int32) => ((r8 = (0 : Int32) → xl (x7 + (0 : Int32)) (fun y9 => q_X1_paintBlock_L72 u1 u2 u3 u4 u5 P0 n y9 (x8 + (1 : Int32)) cel)) ∧ (¬ r8 = (0 : Int32) → q_X1_in (x8 - x8 / (6 : Int32) * (6 : Int32)) u2 u4 (fun (r10 : Int32) => ((r10 = (0 : Int32) → xl (x7 + (0 : Int32)) (fun y11 => q_X1_paintBlock_L72 u1 u2 u3 u4 u5 P0 n y11 (x8 + (1 : Int32)) cel)) ∧ (¬ r10 = (0 : Int32) → q_X1_paints x8 u5 cel (fun (r13 : Int32) (cel_12 : Nat → Int32) => xl (x7 + r13) (fun y14 => q_X1_paintBlock_L72 u1 u2 u3 u4 u5 P0 n y14 (x8 + (1 : Int32)) cel_12))))))))))
def q_X1_paintBlock (p1 : Int32) (p2 : Int32) (p3 : Int32) (p4 : Int32) (p5 : Int32) (cel : Nat → Int32) (P : Int32 → (Nat → Int32) → Int32 → Prop) : Prop := q_X1_isCell p1 p2 (fun (r1 : Int32) => xj1 (fun (v3 : Int32) => xj1 (fun (v5 : Int32) => q_X1_goes v3 v5 (1 : Int32) (fun (r7 : Int32) (thrown_6 : Int32) => ((¬ r7 = (0 : Int32) → (∃ n15 : Nat, q_X1_paintBlock_L72 p1 p2 p3 p4 p5 (fun (v16 : Int32) (v17 : Nat → Int32) => P v16 v17 thrown_6) n15 (0 : Int32) (0 : Int32) cel)) ∧ (r7 = (0 : Int32) → P (0 : Int32) cel thrown_6)))) (fun (J4 : Int32 → Prop) => xj0 (J4 (0 : Int32)) (fun (J18 : Prop) => xj0 (((p3 < p1 → J18) ∧ (¬ p3 < p1 → ((p4 < p2 → J18) ∧ (¬ p4 < p2 → J4 (1 : Int32)))))) (fun (J19 : Prop) => ((p5 = (-1 : Int32) → J19) ∧ (¬ p5 = (-1 : Int32) → q_X1_isCountry p5 (fun (r20 : Int32) => ((r20 = (0 : Int32) → J18) ∧ (¬ r20 = (0 : Int32) → J19))))))))) (fun (J2 : Int32 → Prop) => xj0 (J2 (0 : Int32)) (fun (J21 : Prop) => ((r1 = (0 : Int32) → J21) ∧ (¬ r1 = (0 : Int32) → q_X1_isCell p3 p4 (fun (r22 : Int32) => ((r22 = (0 : Int32) → J21) ∧ (¬ r22 = (0 : Int32) → J2 (1 : Int32)))))))))
set_option maxHeartbeats 4000000 in
set_option maxRecDepth 100000 in
theorem w_X1_paintBlock_L72 {X : xC} {l : Launch} {D : va_G} {cI cJ cZ cA : ClassId} {V : Nat → Nat} (K : xk X l rm_X1_paintBlock D vwCl (xtys cI cJ cZ cA) cX1_paintBlock RX1 wsX1_paintBlock 9) (u1 : Int32) (u2 : Int32) (u3 : Int32) (u4 : Int32) (u5 : Int32) (tint : Nat → Int32) (cells : Nat → Int64) (near : Nat → Int32) (there : Int32) (ways : Nat → Int64) (more : Nat → Int64) (thrown : Int32) (P0 : Int32 → (Nat → Int32) → Prop) : ∀ (n : Nat) (x7 : Int32) (x8 : Int32) (cel : Nat → Int32), q_X1_paintBlock_L72 u1 u2 u3 u4 u5 P0 n x7 x8 cel → (∀ (z0 : Int32) (z1 : Nat → Int32), P0 z0 z1 → xw X 0 0 129 [(7, .int z0)] [] (wX1 cI cJ cZ cA V z1 tint cells near there ways more thrown)) → xw X 0 0 72 [(0, .ref (V 0)), (1, .int u1), (2, .int u2), (3, .int u3), (4, .int u4), (5, .int u5), (7, .int x7), (8, .int x8)] [] (wX1 cI cJ cZ cA V cel tint cells near there ways more thrown) := by
  intro n
  induction n with
  | zero =>
    intro x7 x8 cel h
    rw [q_X1_paintBlock_L72] at h
    exact h.elim
  | succ n ih =>
    intro x7 x8 cel h k0
    rw [q_X1_paintBlock_L72] at h
    refine x_iload (pc := 72) K dX1_paintBlock_72 7 rfl ?_
    refine x_bipush (v := (36)) (pc := 74) K dX1_paintBlock_74 (by decide) ?_
    refine x_icmp_ge (pc := 76) K dX1_paintBlock_76 (tgt := 129) (by decide) (fun c9 => ?_) (fun c9 => ?_)
    · have h := h.1 c9
      refine x_keep [false, false, false, false, false, false, true, false] rfl ?_
      exact k0 x7 cel h
    · have h := h.2 c9
      refine x_iload (pc := 79) K dX1_paintBlock_79 6 rfl ?_
      refine x_iload (pc := 81) K dX1_paintBlock_81 7 rfl ?_
      refine x_bipush (v := (6)) (pc := 83) K dX1_paintBlock_83 (by decide) ?_
      refine x_idiv (pc := 85) K (by decide) dX1_paintBlock_85 ?_
      refine x_iload_n (pc := 86) K dX1_paintBlock_86 1 rfl rfl ?_
      refine x_iload_n (pc := 87) K dX1_paintBlock_87 3 rfl rfl ?_
      refine x_pcallSz (pc := 88) (n := 3) K (c_X1_in l D cI cJ cZ cA (x8 / (6 : Int32)) u1 u3 _ h) rfl rfl gX1_paintBlock_X1_in rfl (by decide +kernel) ⟨Nat.le_of_ble_eq_true rfl, Nat.le_of_ble_eq_true rfl⟩ rfl (av := [.int (x8 / (6 : Int32)), .int u1, .int u3]) rfl (Nat.le_of_ble_eq_true rfl) dX1_paintBlock_88 ⟨Nat.le_of_ble_eq_true rfl, Nat.le_of_ble_eq_true rfl⟩ (fun r8 u9 h => ?_)
      refine x_if_eq (pc := 91) K dX1_paintBlock_91 (tgt := 119) (by decide) (fun c9 => ?_) (fun c9 => ?_)
      · have h := h.1 c9
        refine x_keep [true, true, true, true, true, true, false, true] rfl ?_
        refine x_iconst (v := (0)) (pc := 119) K dX1_paintBlock_119 (by decide) ?_
        refine x_iadd (pc := 120) K dX1_paintBlock_120 ?_
        obtain ⟨y9, ey9, h⟩ := xl_o h
        refine x_topi ey9 ?_
        clear ey9
        refine x_istore (lv' := [(0, .ref (V 0)), (1, .int u1), (2, .int u2), (3, .int u3), (4, .int u4), (5, .int u5), (7, .int y9), (8, .int x8)]) (pc := 121) K dX1_paintBlock_121 (by decide) rfl ?_
        refine x_iinc (v := x8 + (1 : Int32)) (lv' := [(0, .ref (V 0)), (1, .int u1), (2, .int u2), (3, .int u3), (4, .int u4), (5, .int u5), (7, .int y9), (8, .int (x8 + (1 : Int32)))]) (pc := 123) K dX1_paintBlock_123 (k := 7) rfl rfl (by decide) rfl ?_
        refine x_goto (pc := 126) K dX1_paintBlock_126 (tgt := 72) (by decide) ?_
        exact ih y9 (x8 + (1 : Int32)) cel h k0
      · have h := h.2 c9
        refine x_keep [true, true, true, true, true, true, false, true] rfl ?_
        refine x_iload (pc := 94) K dX1_paintBlock_94 6 rfl ?_
        refine x_bipush (v := (6)) (pc := 96) K dX1_paintBlock_96 (by decide) ?_
        refine x_irem (pc := 98) K (by decide) dX1_paintBlock_98 ?_
        refine x_iload_n (pc := 99) K dX1_paintBlock_99 2 rfl rfl ?_
        refine x_iload (pc := 100) K dX1_paintBlock_100 4 rfl ?_
        refine x_pcallSz (pc := 102) (n := 3) K (c_X1_in l D cI cJ cZ cA (x8 - x8 / (6 : Int32) * (6 : Int32)) u2 u4 _ h) rfl rfl gX1_paintBlock_X1_in rfl (by decide +kernel) ⟨Nat.le_of_ble_eq_true rfl, Nat.le_of_ble_eq_true rfl⟩ rfl (av := [.int (x8 - x8 / (6 : Int32) * (6 : Int32)), .int u2, .int u4]) rfl (Nat.le_of_ble_eq_true rfl) dX1_paintBlock_102 ⟨Nat.le_of_ble_eq_true rfl, Nat.le_of_ble_eq_true rfl⟩ (fun r10 u9 h => ?_)
        refine x_if_eq (pc := 105) K dX1_paintBlock_105 (tgt := 119) (by decide) (fun c9 => ?_) (fun c9 => ?_)
        · have h := h.1 c9
          refine x_iconst (v := (0)) (pc := 119) K dX1_paintBlock_119 (by decide) ?_
          refine x_iadd (pc := 120) K dX1_paintBlock_120 ?_
          obtain ⟨y11, ey11, h⟩ := xl_o h
          refine x_topi ey11 ?_
          clear ey11
          refine x_istore (lv' := [(0, .ref (V 0)), (1, .int u1), (2, .int u2), (3, .int u3), (4, .int u4), (5, .int u5), (7, .int y11), (8, .int x8)]) (pc := 121) K dX1_paintBlock_121 (by decide) rfl ?_
          refine x_iinc (v := x8 + (1 : Int32)) (lv' := [(0, .ref (V 0)), (1, .int u1), (2, .int u2), (3, .int u3), (4, .int u4), (5, .int u5), (7, .int y11), (8, .int (x8 + (1 : Int32)))]) (pc := 123) K dX1_paintBlock_123 (k := 7) rfl rfl (by decide) rfl ?_
          refine x_goto (pc := 126) K dX1_paintBlock_126 (tgt := 72) (by decide) ?_
          exact ih y11 (x8 + (1 : Int32)) cel h k0
        · have h := h.2 c9
          refine x_aload_n (pc := 108) K dX1_paintBlock_108 0 rfl rfl ?_
          refine x_iload (pc := 109) K dX1_paintBlock_109 6 rfl ?_
          refine x_iload (pc := 111) K dX1_paintBlock_111 5 rfl ?_
          refine x_callVi (pc := 113) (n := 2) K (c_X1_paints l D cI cJ cZ cA V x8 u5 cel tint cells near there ways more thrown _ h) rfl rfl gX1_paintBlock_X1_paints rfl (by decide +kernel) ⟨Nat.le_of_ble_eq_true rfl, Nat.le_of_ble_eq_true rfl⟩ rfl (av := [.int x8, .int u5]) (b := V 0) (ci := 1) (q0 := 0) rfl rfl rfl (Nat.le_of_ble_eq_true rfl) [0, 1, 2, 3, 4, 5, 6] [] (wr := []) rfl rfl rfl rfl (by decide) dX1_paintBlock_113 ⟨Nat.le_of_ble_eq_true rfl, Nat.le_of_ble_eq_true rfl⟩ (fun r13 cel_12 h => ?_)
          refine x_ws (ws' := (wX1 cI cJ cZ cA V cel_12 tint cells near there ways more thrown)) rfl ?_
          refine x_goto (pc := 116) K dX1_paintBlock_116 (tgt := 120) (by decide) ?_
          refine x_iadd (pc := 120) K dX1_paintBlock_120 ?_
          obtain ⟨y14, ey14, h⟩ := xl_o h
          refine x_topi ey14 ?_
          clear ey14
          refine x_istore (lv' := [(0, .ref (V 0)), (1, .int u1), (2, .int u2), (3, .int u3), (4, .int u4), (5, .int u5), (7, .int y14), (8, .int x8)]) (pc := 121) K dX1_paintBlock_121 (by decide) rfl ?_
          refine x_iinc (v := x8 + (1 : Int32)) (lv' := [(0, .ref (V 0)), (1, .int u1), (2, .int u2), (3, .int u3), (4, .int u4), (5, .int u5), (7, .int y14), (8, .int (x8 + (1 : Int32)))]) (pc := 123) K dX1_paintBlock_123 (k := 7) rfl rfl (by decide) rfl ?_
          refine x_goto (pc := 126) K dX1_paintBlock_126 (tgt := 72) (by decide) ?_
          exact ih y14 (x8 + (1 : Int32)) cel_12 h k0
set_option maxHeartbeats 4000000 in
set_option maxRecDepth 100000 in
theorem c_X1_paintBlock (l : Launch) (D : va_G) (cI cJ cZ cA : ClassId) (V : Nat → Nat) (p1 : Int32) (p2 : Int32) (p3 : Int32) (p4 : Int32) (p5 : Int32) (cel : Nat → Int32) (tint : Nat → Int32) (cells : Nat → Int64) (near : Nat → Int32) (there : Int32) (ways : Nat → Int64) (more : Nat → Int64) (thrown : Int32) (P : Int32 → (Nat → Int32) → Int32 → Prop) (h : q_X1_paintBlock p1 p2 p3 p4 p5 cel P) : xMi l yX1_paintBlock wsX1_paintBlock rm_X1_paintBlock D vwCl (xtys cI cJ cZ cA) (wX1 cI cJ cZ cA V cel tint cells near there ways more thrown) [.ref (V 0), .int p1, .int p2, .int p3, .int p4, .int p5] (σ := (Nat → Int32) × Int32) (fun u => (wX1 cI cJ cZ cA V u.1 tint cells near there ways more u.2)) (fun r u => P r u.1 u.2) := by
  refine xMi_of (cc := cX1_paintBlock) (maxL := 9) (by decide) rfl (Nat.le_of_ble_eq_true rfl) ?_
  intro X K hE
  have K : xk X l rm_X1_paintBlock D vwCl (xtys cI cJ cZ cA) cX1_paintBlock RX1 wsX1_paintBlock 9 := K
  unfold q_X1_paintBlock at h
  refine x_iload_n (pc := 0) K dX1_paintBlock_0 1 rfl rfl ?_
  refine x_iload_n (pc := 1) K dX1_paintBlock_1 2 rfl rfl ?_
  refine x_pcallSz (pc := 2) (n := 2) K (c_X1_isCell l D cI cJ cZ cA p1 p2 _ h) rfl rfl gX1_paintBlock_X1_isCell rfl (by decide +kernel) ⟨Nat.le_of_ble_eq_true rfl, Nat.le_of_ble_eq_true rfl⟩ rfl (av := [.int p1, .int p2]) rfl (Nat.le_of_ble_eq_true rfl) dX1_paintBlock_2 ⟨Nat.le_of_ble_eq_true rfl, Nat.le_of_ble_eq_true rfl⟩ (fun r1 u9 h => ?_)
  obtain ⟨J2, hJ2, h⟩ := xj1_o h
  have kJ2 : ∀ (v3 : Int32), J2 v3 → xw X 0 0 22 [(0, .ref (V 0)), (1, .int p1), (2, .int p2), (3, .int p3), (4, .int p4), (5, .int p5)] [.int v3] (wX1 cI cJ cZ cA V cel tint cells near there ways more thrown) := by
    intro v3 hj
    have h := hJ2 v3 hj
    refine x_istore (lv' := [(0, .ref (V 0)), (1, .int p1), (2, .int p2), (3, .int p3), (4, .int p4), (5, .int p5), (6, .int v3)]) (pc := 22) K dX1_paintBlock_22 (by decide) rfl ?_
    refine x_aload_n (pc := 24) K dX1_paintBlock_24 0 rfl rfl ?_
    refine x_iload (pc := 25) K dX1_paintBlock_25 6 rfl ?_
    refine x_iload (pc := 27) K dX1_paintBlock_27 5 rfl ?_
    refine x_iconst (v := (-1)) (pc := 29) K dX1_paintBlock_29 (by decide) ?_
    obtain ⟨J4, hJ4, h⟩ := xj1_o h
    have kJ4 : ∀ (v5 : Int32), J4 v5 → xw X 0 0 57 [(0, .ref (V 0)), (1, .int p1), (2, .int p2), (3, .int p3), (4, .int p4), (5, .int p5)] [.int v5, .int v3, .ref (V 0)] (wX1 cI cJ cZ cA V cel tint cells near there ways more thrown) := by
      intro v5 hj
      have h := hJ4 v5 hj
      refine x_iconst (v := (1)) (pc := 57) K dX1_paintBlock_57 (by decide) ?_
      refine x_callVz (pc := 58) (n := 3) K (c_X1_goes l D cI cJ cZ cA V v3 v5 (1 : Int32) cel tint cells near there ways more thrown _ h) rfl rfl gX1_paintBlock_X1_goes rfl (by decide +kernel) ⟨Nat.le_of_ble_eq_true rfl, Nat.le_of_ble_eq_true rfl⟩ rfl (av := [.int v3, .int v5, .int (1 : Int32)]) (b := V 0) (ci := 1) (q0 := 0) rfl rfl rfl (Nat.le_of_ble_eq_true rfl) [0, 1, 2, 3, 4, 5, 6] [] (wr := []) rfl rfl rfl rfl (by decide) dX1_paintBlock_58 ⟨Nat.le_of_ble_eq_true rfl, Nat.le_of_ble_eq_true rfl⟩ (fun r7 thrown_6 h => ?_)
      refine x_ws (ws' := (wX1 cI cJ cZ cA V cel tint cells near there ways more thrown_6)) rfl ?_
      refine x_if_ne (pc := 61) K dX1_paintBlock_61 (tgt := 66) (by decide) (fun c9 => ?_) (fun c9 => ?_)
      · have h := h.1 c9
        refine x_iconst (v := (0)) (pc := 66) K dX1_paintBlock_66 (by decide) ?_
        refine x_istore (lv' := [(0, .ref (V 0)), (1, .int p1), (2, .int p2), (3, .int p3), (4, .int p4), (5, .int p5), (7, .int (0 : Int32))]) (pc := 67) K dX1_paintBlock_67 (by decide) rfl ?_
        refine x_iconst (v := (0)) (pc := 69) K dX1_paintBlock_69 (by decide) ?_
        refine x_istore (lv' := [(0, .ref (V 0)), (1, .int p1), (2, .int p2), (3, .int p3), (4, .int p4), (5, .int p5), (7, .int (0 : Int32)), (8, .int (0 : Int32))]) (pc := 70) K dX1_paintBlock_70 (by decide) rfl ?_
        obtain ⟨n15, h⟩ := h
        refine w_X1_paintBlock_L72 K p1 p2 p3 p4 p5 tint cells near there ways more thrown_6 _ n15 (0 : Int32) (0 : Int32) cel h (fun v16 v17 h => ?_)
        refine x_iload (pc := 129) K dX1_paintBlock_129 0 rfl ?_
        exact hE v16 (v17, thrown_6) _ _ h dX1_paintBlock_131
      · have h := h.2 c9
        refine x_keep [false, false, false, false, false, false] rfl ?_
        refine x_iconst (v := (0)) (pc := 64) K dX1_paintBlock_64 (by decide) ?_
        exact hE (0 : Int32) (cel, thrown_6) _ _ h dX1_paintBlock_65
    obtain ⟨J18, hJ18, h⟩ := xj0_o h
    have kJ18 : J18 → xw X 0 0 56 [(0, .ref (V 0)), (1, .int p1), (2, .int p2), (3, .int p3), (4, .int p4), (5, .int p5)] [.int v3, .ref (V 0)] (wX1 cI cJ cZ cA V cel tint cells near there ways more thrown) := by
      intro  hj
      have h := hJ18  hj
      refine x_iconst (v := (0)) (pc := 56) K dX1_paintBlock_56 (by decide) ?_
      exact kJ4 (0 : Int32) h
    obtain ⟨J19, hJ19, h⟩ := xj0_o h
    have kJ19 : J19 → xw X 0 0 41 [(0, .ref (V 0)), (1, .int p1), (2, .int p2), (3, .int p3), (4, .int p4), (5, .int p5)] [.int v3, .ref (V 0)] (wX1 cI cJ cZ cA V cel tint cells near there ways more thrown) := by
      intro  hj
      have h := hJ19  hj
      refine x_iload_n (pc := 41) K dX1_paintBlock_41 3 rfl rfl ?_
      refine x_iload_n (pc := 42) K dX1_paintBlock_42 1 rfl rfl ?_
      refine x_icmp_lt (pc := 43) K dX1_paintBlock_43 (tgt := 56) (by decide) (fun c9 => ?_) (fun c9 => ?_)
      · have h := h.1 c9
        exact kJ18  h
      · have h := h.2 c9
        refine x_iload (pc := 46) K dX1_paintBlock_46 4 rfl ?_
        refine x_iload_n (pc := 48) K dX1_paintBlock_48 2 rfl rfl ?_
        refine x_icmp_lt (pc := 49) K dX1_paintBlock_49 (tgt := 56) (by decide) (fun c9 => ?_) (fun c9 => ?_)
        · have h := h.1 c9
          exact kJ18  h
        · have h := h.2 c9
          refine x_iconst (v := (1)) (pc := 52) K dX1_paintBlock_52 (by decide) ?_
          refine x_goto (pc := 53) K dX1_paintBlock_53 (tgt := 57) (by decide) ?_
          exact kJ4 (1 : Int32) h
    refine x_icmp_eq (pc := 30) K dX1_paintBlock_30 (tgt := 41) (by decide) (fun c9 => ?_) (fun c9 => ?_)
    · have h := h.1 c9
      refine x_keep [true, true, true, true, true, true, false] rfl ?_
      exact kJ19  h
    · have h := h.2 c9
      refine x_keep [true, true, true, true, true, true, false] rfl ?_
      refine x_iload (pc := 33) K dX1_paintBlock_33 5 rfl ?_
      refine x_pcallSz (pc := 35) (n := 1) K (c_X1_isCountry l D cI cJ cZ cA p5 _ h) rfl rfl gX1_paintBlock_X1_isCountry rfl (by decide +kernel) ⟨Nat.le_of_ble_eq_true rfl, Nat.le_of_ble_eq_true rfl⟩ rfl (av := [.int p5]) rfl (Nat.le_of_ble_eq_true rfl) dX1_paintBlock_35 ⟨Nat.le_of_ble_eq_true rfl, Nat.le_of_ble_eq_true rfl⟩ (fun r20 u9 h => ?_)
      refine x_if_eq (pc := 38) K dX1_paintBlock_38 (tgt := 56) (by decide) (fun c9 => ?_) (fun c9 => ?_)
      · have h := h.1 c9
        exact kJ18  h
      · have h := h.2 c9
        exact kJ19  h
  obtain ⟨J21, hJ21, h⟩ := xj0_o h
  have kJ21 : J21 → xw X 0 0 21 [(0, .ref (V 0)), (1, .int p1), (2, .int p2), (3, .int p3), (4, .int p4), (5, .int p5)] [] (wX1 cI cJ cZ cA V cel tint cells near there ways more thrown) := by
    intro  hj
    have h := hJ21  hj
    refine x_iconst (v := (0)) (pc := 21) K dX1_paintBlock_21 (by decide) ?_
    exact kJ2 (0 : Int32) h
  refine x_if_eq (pc := 5) K dX1_paintBlock_5 (tgt := 21) (by decide) (fun c9 => ?_) (fun c9 => ?_)
  · have h := h.1 c9
    exact kJ21  h
  · have h := h.2 c9
    refine x_iload_n (pc := 8) K dX1_paintBlock_8 3 rfl rfl ?_
    refine x_iload (pc := 9) K dX1_paintBlock_9 4 rfl ?_
    refine x_pcallSz (pc := 11) (n := 2) K (c_X1_isCell l D cI cJ cZ cA p3 p4 _ h) rfl rfl gX1_paintBlock_X1_isCell rfl (by decide +kernel) ⟨Nat.le_of_ble_eq_true rfl, Nat.le_of_ble_eq_true rfl⟩ rfl (av := [.int p3, .int p4]) rfl (Nat.le_of_ble_eq_true rfl) dX1_paintBlock_11 ⟨Nat.le_of_ble_eq_true rfl, Nat.le_of_ble_eq_true rfl⟩ (fun r22 u9 h => ?_)
    refine x_if_eq (pc := 14) K dX1_paintBlock_14 (tgt := 21) (by decide) (fun c9 => ?_) (fun c9 => ?_)
    · have h := h.1 c9
      exact kJ21  h
    · have h := h.2 c9
      refine x_iconst (v := (1)) (pc := 17) K dX1_paintBlock_17 (by decide) ?_
      refine x_goto (pc := 18) K dX1_paintBlock_18 (tgt := 22) (by decide) ?_
      exact kJ2 (1 : Int32) h
abbrev rm_X1_countryAt : Room := { frames := 10, cells := 0, slots := 0, locals := 200 }
theorem inX1_countryAt : ∀ w ∈ u_ws RX1 TX1 8, w ∈ wsX1_countryAt := by decide +kernel
theorem kX1_countryAt_0 : Cond.fieldLink RX1 9 "FourTintsModel" "cell" "[I" ∈ wsX1_countryAt := by decide +kernel
def q_X1_countryAt (p1 : Int32) (p2 : Int32) (cel : Nat → Int32) (P : Int32 → Int32 → Prop) : Prop := q_X1_isCell p1 p2 (fun (r1 : Int32) => q_X1_goes r1 (1 : Int32) (1 : Int32) (fun (r3 : Int32) (thrown_2 : Int32) => ((r3 = (0 : Int32) → P (0 : Int32) thrown_2) ∧ (¬ r3 = (0 : Int32) → xin (((6 : Int32) * p1) + p2) 36 = true ∧ P (cel (((6 : Int32) * p1) + p2).toNatClampNeg) thrown_2))))
set_option maxHeartbeats 4000000 in
set_option maxRecDepth 100000 in
theorem c_X1_countryAt (l : Launch) (D : va_G) (cI cJ cZ cA : ClassId) (V : Nat → Nat) (p1 : Int32) (p2 : Int32) (cel : Nat → Int32) (tint : Nat → Int32) (cells : Nat → Int64) (near : Nat → Int32) (there : Int32) (ways : Nat → Int64) (more : Nat → Int64) (thrown : Int32) (P : Int32 → Int32 → Prop) (h : q_X1_countryAt p1 p2 cel P) : xMi l yX1_countryAt wsX1_countryAt rm_X1_countryAt D vwCl (xtys cI cJ cZ cA) (wX1 cI cJ cZ cA V cel tint cells near there ways more thrown) [.ref (V 0), .int p1, .int p2] (σ := Int32) (fun u => (wX1 cI cJ cZ cA V cel tint cells near there ways more u)) (fun r u => P r u) := by
  refine xMi_of (cc := cX1_countryAt) (maxL := 3) (by decide) rfl (Nat.le_of_ble_eq_true rfl) ?_
  intro X K hE
  have K : xk X l rm_X1_countryAt D vwCl (xtys cI cJ cZ cA) cX1_countryAt RX1 wsX1_countryAt 3 := K
  unfold q_X1_countryAt at h
  refine x_aload_n (pc := 0) K dX1_countryAt_0 0 rfl rfl ?_
  refine x_iload_n (pc := 1) K dX1_countryAt_1 1 rfl rfl ?_
  refine x_iload_n (pc := 2) K dX1_countryAt_2 2 rfl rfl ?_
  refine x_pcallSz (pc := 3) (n := 2) K (c_X1_isCell l D cI cJ cZ cA p1 p2 _ h) rfl rfl gX1_countryAt_X1_isCell rfl (by decide +kernel) ⟨Nat.le_of_ble_eq_true rfl, Nat.le_of_ble_eq_true rfl⟩ rfl (av := [.int p1, .int p2]) rfl (Nat.le_of_ble_eq_true rfl) dX1_countryAt_3 ⟨Nat.le_of_ble_eq_true rfl, Nat.le_of_ble_eq_true rfl⟩ (fun r1 u9 h => ?_)
  refine x_iconst (v := (1)) (pc := 6) K dX1_countryAt_6 (by decide) ?_
  refine x_iconst (v := (1)) (pc := 7) K dX1_countryAt_7 (by decide) ?_
  refine x_callVz (pc := 8) (n := 3) K (c_X1_goes l D cI cJ cZ cA V r1 (1 : Int32) (1 : Int32) cel tint cells near there ways more thrown _ h) rfl rfl gX1_countryAt_X1_goes rfl (by decide +kernel) ⟨Nat.le_of_ble_eq_true rfl, Nat.le_of_ble_eq_true rfl⟩ rfl (av := [.int r1, .int (1 : Int32), .int (1 : Int32)]) (b := V 0) (ci := 1) (q0 := 0) rfl rfl rfl (Nat.le_of_ble_eq_true rfl) [0, 1, 2, 3, 4, 5, 6] [] (wr := []) rfl rfl rfl rfl (by decide) dX1_countryAt_8 ⟨Nat.le_of_ble_eq_true rfl, Nat.le_of_ble_eq_true rfl⟩ (fun r3 thrown_2 h => ?_)
  refine x_ws (ws' := (wX1 cI cJ cZ cA V cel tint cells near there ways more thrown_2)) rfl ?_
  refine x_if_eq (pc := 11) K dX1_countryAt_11 (tgt := 28) (by decide) (fun c9 => ?_) (fun c9 => ?_)
  · have h := h.1 c9
    refine x_keep [false, false, false] rfl ?_
    refine x_iconst (v := (0)) (pc := 28) K dX1_countryAt_28 (by decide) ?_
    exact hE (0 : Int32) thrown_2 _ _ h dX1_countryAt_29
  · have h := h.2 c9
    refine x_aload_n (pc := 14) K dX1_countryAt_14 0 rfl rfl ?_
    refine x_get (pc := 15) (ci := 1) (C := RX1) (T := TX1) (N := 8) K (inX1_countryAt) 0 rfl rfl 0 (by decide) kX1_countryAt_0 rfl rfl dX1_countryAt_15 ?_
    refine x_bipush (v := (6)) (pc := 18) K dX1_countryAt_18 (by decide) ?_
    refine x_iload_n (pc := 20) K dX1_countryAt_20 1 rfl rfl ?_
    refine x_imul (pc := 21) K dX1_countryAt_21 ?_
    refine x_iload_n (pc := 22) K dX1_countryAt_22 2 rfl rfl ?_
    refine x_iadd (pc := 23) K dX1_countryAt_23 ?_
    have g9 := h.1
    replace h := h.2
    refine x_iald (pc := 24) K 1 0 rfl rfl g9 dX1_countryAt_24 ?_
    clear g9
    refine x_goto (pc := 25) K dX1_countryAt_25 (tgt := 29) (by decide) ?_
    refine x_keep [false, false, false] rfl ?_
    exact hE (cel (((6 : Int32) * p1) + p2).toNatClampNeg) thrown_2 _ _ h dX1_countryAt_29
abbrev rm_X1_countries : Room := { frames := 10, cells := 0, slots := 0, locals := 200 }
theorem inX1_countries : ∀ w ∈ u_ws RX1 TX1 8, w ∈ wsX1_countries := by decide +kernel
theorem kX1_countries_0 : Cond.fieldLink RX1 47 "FourTintsModel" "there" "I" ∈ wsX1_countries := by decide +kernel
def q_X1_countries (cel : Nat → Int32) (cells : Nat → Int64) (near : Nat → Int32) (P : Int32 → (Nat → Int64) → (Nat → Int32) → Int32 → Int32 → Prop) : Prop := q_X1_looks cel cells near (fun (cells_1 : Nat → Int64) (near_2 : Nat → Int32) (there_3 : Int32) => q_X1_bits there_3.toInt64 (fun (r4 : Int32) => q_X1_told r4 (fun (r6 : Int32) (thrown_5 : Int32) => P r6 cells_1 near_2 there_3 thrown_5)))
set_option maxHeartbeats 4000000 in
set_option maxRecDepth 100000 in
theorem c_X1_countries (l : Launch) (D : va_G) (cI cJ cZ cA : ClassId) (V : Nat → Nat) (cel : Nat → Int32) (tint : Nat → Int32) (cells : Nat → Int64) (near : Nat → Int32) (there : Int32) (ways : Nat → Int64) (more : Nat → Int64) (thrown : Int32) (P : Int32 → (Nat → Int64) → (Nat → Int32) → Int32 → Int32 → Prop) (h : q_X1_countries cel cells near P) : xMi l yX1_countries wsX1_countries rm_X1_countries D vwCl (xtys cI cJ cZ cA) (wX1 cI cJ cZ cA V cel tint cells near there ways more thrown) [.ref (V 0)] (σ := (Nat → Int64) × (Nat → Int32) × Int32 × Int32) (fun u => (wX1 cI cJ cZ cA V cel tint u.1 u.2.1 u.2.2.1 ways more u.2.2.2)) (fun r u => P r u.1 u.2.1 u.2.2.1 u.2.2.2) := by
  refine xMi_of (cc := cX1_countries) (maxL := 1) (by decide) rfl (Nat.le_of_ble_eq_true rfl) ?_
  intro X K hE
  have K : xk X l rm_X1_countries D vwCl (xtys cI cJ cZ cA) cX1_countries RX1 wsX1_countries 1 := K
  unfold q_X1_countries at h
  refine x_aload_n (pc := 0) K dX1_countries_0 0 rfl rfl ?_
  refine x_callVv (pc := 1) (n := 0) K (c_X1_looks l D cI cJ cZ cA V cel tint cells near there ways more thrown _ h) rfl rfl gX1_countries_X1_looks rfl (by decide +kernel) ⟨Nat.le_of_ble_eq_true rfl, Nat.le_of_ble_eq_true rfl⟩ rfl (av := []) (b := V 0) (ci := 1) (q0 := 0) rfl rfl rfl (Nat.le_of_ble_eq_true rfl) [0, 1, 2, 3, 4, 5, 6] [] (wr := []) rfl rfl rfl rfl (by decide) dX1_countries_1 ⟨Nat.le_of_ble_eq_true rfl, Nat.le_of_ble_eq_true rfl⟩ (fun u9 h => ?_)
  obtain ⟨cells_1, near_2, there_3⟩ := u9
  refine x_ws (ws' := (wX1 cI cJ cZ cA V cel tint cells_1 near_2 there_3 ways more thrown)) rfl ?_
  refine x_aload_n (pc := 4) K dX1_countries_4 0 rfl rfl ?_
  refine x_aload_n (pc := 5) K dX1_countries_5 0 rfl rfl ?_
  refine x_get (pc := 6) (ci := 1) (C := RX1) (T := TX1) (N := 8) K (inX1_countries) 0 rfl rfl 4 (by decide) kX1_countries_0 rfl rfl dX1_countries_6 ?_
  refine x_i2l (pc := 9) K dX1_countries_9 ?_
  refine x_pcallSi (pc := 10) (n := 1) K (c_X1_bits l D cI cJ cZ cA there_3.toInt64 _ h) rfl rfl gX1_countries_X1_bits rfl (by decide +kernel) ⟨Nat.le_of_ble_eq_true rfl, Nat.le_of_ble_eq_true rfl⟩ rfl (av := [.long there_3.toInt64]) rfl (Nat.le_of_ble_eq_true rfl) dX1_countries_10 ⟨Nat.le_of_ble_eq_true rfl, Nat.le_of_ble_eq_true rfl⟩ (fun r4 u9 h => ?_)
  refine x_callVi (pc := 13) (n := 1) K (c_X1_told l D cI cJ cZ cA V r4 cel tint cells_1 near_2 there_3 ways more thrown _ h) rfl rfl gX1_countries_X1_told rfl (by decide +kernel) ⟨Nat.le_of_ble_eq_true rfl, Nat.le_of_ble_eq_true rfl⟩ rfl (av := [.int r4]) (b := V 0) (ci := 1) (q0 := 0) rfl rfl rfl (Nat.le_of_ble_eq_true rfl) [0, 1, 2, 3, 4, 5, 6] [] (wr := []) rfl rfl rfl rfl (by decide) dX1_countries_13 ⟨Nat.le_of_ble_eq_true rfl, Nat.le_of_ble_eq_true rfl⟩ (fun r6 thrown_5 h => ?_)
  refine x_ws (ws' := (wX1 cI cJ cZ cA V cel tint cells_1 near_2 there_3 ways more thrown_5)) rfl ?_
  exact hE r6 (cells_1, near_2, there_3, thrown_5) _ _ h dX1_countries_16
abbrev rm_X1_area : Room := { frames := 10, cells := 0, slots := 0, locals := 200 }
theorem inX1_area : ∀ w ∈ u_ws RX1 TX1 8, w ∈ wsX1_area := by decide +kernel
theorem kX1_area_0 : Cond.fieldLink RX1 16 "FourTintsModel" "cells" "[J" ∈ wsX1_area := by decide +kernel
def q_X1_area (p1 : Int32) (cel : Nat → Int32) (cells : Nat → Int64) (near : Nat → Int32) (P : Int32 → (Nat → Int64) → (Nat → Int32) → Int32 → Int32 → Prop) : Prop := q_X1_looks cel cells near (fun (cells_1 : Nat → Int64) (near_2 : Nat → Int32) (there_3 : Int32) => q_X1_isCountry p1 (fun (r4 : Int32) => q_X1_goes r4 (1 : Int32) (1 : Int32) (fun (r6 : Int32) (thrown_5 : Int32) => ((r6 = (0 : Int32) → P (0 : Int32) cells_1 near_2 there_3 thrown_5) ∧ (¬ r6 = (0 : Int32) → xin p1 10 = true ∧ q_X1_bits (cells_1 p1.toNatClampNeg) (fun (r7 : Int32) => P r7 cells_1 near_2 there_3 thrown_5))))))
set_option maxHeartbeats 4000000 in
set_option maxRecDepth 100000 in
theorem c_X1_area (l : Launch) (D : va_G) (cI cJ cZ cA : ClassId) (V : Nat → Nat) (p1 : Int32) (cel : Nat → Int32) (tint : Nat → Int32) (cells : Nat → Int64) (near : Nat → Int32) (there : Int32) (ways : Nat → Int64) (more : Nat → Int64) (thrown : Int32) (P : Int32 → (Nat → Int64) → (Nat → Int32) → Int32 → Int32 → Prop) (h : q_X1_area p1 cel cells near P) : xMi l yX1_area wsX1_area rm_X1_area D vwCl (xtys cI cJ cZ cA) (wX1 cI cJ cZ cA V cel tint cells near there ways more thrown) [.ref (V 0), .int p1] (σ := (Nat → Int64) × (Nat → Int32) × Int32 × Int32) (fun u => (wX1 cI cJ cZ cA V cel tint u.1 u.2.1 u.2.2.1 ways more u.2.2.2)) (fun r u => P r u.1 u.2.1 u.2.2.1 u.2.2.2) := by
  refine xMi_of (cc := cX1_area) (maxL := 2) (by decide) rfl (Nat.le_of_ble_eq_true rfl) ?_
  intro X K hE
  have K : xk X l rm_X1_area D vwCl (xtys cI cJ cZ cA) cX1_area RX1 wsX1_area 2 := K
  unfold q_X1_area at h
  refine x_aload_n (pc := 0) K dX1_area_0 0 rfl rfl ?_
  refine x_callVv (pc := 1) (n := 0) K (c_X1_looks l D cI cJ cZ cA V cel tint cells near there ways more thrown _ h) rfl rfl gX1_area_X1_looks rfl (by decide +kernel) ⟨Nat.le_of_ble_eq_true rfl, Nat.le_of_ble_eq_true rfl⟩ rfl (av := []) (b := V 0) (ci := 1) (q0 := 0) rfl rfl rfl (Nat.le_of_ble_eq_true rfl) [0, 1, 2, 3, 4, 5, 6] [] (wr := []) rfl rfl rfl rfl (by decide) dX1_area_1 ⟨Nat.le_of_ble_eq_true rfl, Nat.le_of_ble_eq_true rfl⟩ (fun u9 h => ?_)
  obtain ⟨cells_1, near_2, there_3⟩ := u9
  refine x_ws (ws' := (wX1 cI cJ cZ cA V cel tint cells_1 near_2 there_3 ways more thrown)) rfl ?_
  refine x_aload_n (pc := 4) K dX1_area_4 0 rfl rfl ?_
  refine x_iload_n (pc := 5) K dX1_area_5 1 rfl rfl ?_
  refine x_pcallSz (pc := 6) (n := 1) K (c_X1_isCountry l D cI cJ cZ cA p1 _ h) rfl rfl gX1_area_X1_isCountry rfl (by decide +kernel) ⟨Nat.le_of_ble_eq_true rfl, Nat.le_of_ble_eq_true rfl⟩ rfl (av := [.int p1]) rfl (Nat.le_of_ble_eq_true rfl) dX1_area_6 ⟨Nat.le_of_ble_eq_true rfl, Nat.le_of_ble_eq_true rfl⟩ (fun r4 u9 h => ?_)
  refine x_iconst (v := (1)) (pc := 9) K dX1_area_9 (by decide) ?_
  refine x_iconst (v := (1)) (pc := 10) K dX1_area_10 (by decide) ?_
  refine x_callVz (pc := 11) (n := 3) K (c_X1_goes l D cI cJ cZ cA V r4 (1 : Int32) (1 : Int32) cel tint cells_1 near_2 there_3 ways more thrown _ h) rfl rfl gX1_area_X1_goes rfl (by decide +kernel) ⟨Nat.le_of_ble_eq_true rfl, Nat.le_of_ble_eq_true rfl⟩ rfl (av := [.int r4, .int (1 : Int32), .int (1 : Int32)]) (b := V 0) (ci := 1) (q0 := 0) rfl rfl rfl (Nat.le_of_ble_eq_true rfl) [0, 1, 2, 3, 4, 5, 6] [] (wr := []) rfl rfl rfl rfl (by decide) dX1_area_11 ⟨Nat.le_of_ble_eq_true rfl, Nat.le_of_ble_eq_true rfl⟩ (fun r6 thrown_5 h => ?_)
  refine x_ws (ws' := (wX1 cI cJ cZ cA V cel tint cells_1 near_2 there_3 ways more thrown_5)) rfl ?_
  refine x_if_eq (pc := 14) K dX1_area_14 (tgt := 29) (by decide) (fun c9 => ?_) (fun c9 => ?_)
  · have h := h.1 c9
    refine x_keep [false, false] rfl ?_
    refine x_iconst (v := (0)) (pc := 29) K dX1_area_29 (by decide) ?_
    exact hE (0 : Int32) (cells_1, near_2, there_3, thrown_5) _ _ h dX1_area_30
  · have h := h.2 c9
    refine x_aload_n (pc := 17) K dX1_area_17 0 rfl rfl ?_
    refine x_get (pc := 18) (ci := 1) (C := RX1) (T := TX1) (N := 8) K (inX1_area) 0 rfl rfl 2 (by decide) kX1_area_0 rfl rfl dX1_area_18 ?_
    refine x_iload_n (pc := 21) K dX1_area_21 1 rfl rfl ?_
    have g9 := h.1
    replace h := h.2
    refine x_lald (pc := 22) K 3 1 rfl rfl g9 dX1_area_22 ?_
    clear g9
    refine x_pcallSi (pc := 23) (n := 1) K (c_X1_bits l D cI cJ cZ cA (cells_1 p1.toNatClampNeg) _ h) rfl rfl gX1_area_X1_bits rfl (by decide +kernel) ⟨Nat.le_of_ble_eq_true rfl, Nat.le_of_ble_eq_true rfl⟩ rfl (av := [.long (cells_1 p1.toNatClampNeg)]) rfl (Nat.le_of_ble_eq_true rfl) dX1_area_23 ⟨Nat.le_of_ble_eq_true rfl, Nat.le_of_ble_eq_true rfl⟩ (fun r7 u9 h => ?_)
    refine x_goto (pc := 26) K dX1_area_26 (tgt := 30) (by decide) ?_
    refine x_keep [false, false] rfl ?_
    exact hE r7 (cells_1, near_2, there_3, thrown_5) _ _ h dX1_area_30
abbrev rm_X1_piece : Room := { frames := 10, cells := 0, slots := 0, locals := 200 }
def q_X1_piece (p0 : Int64) (P : Int64 → Prop) : Prop := q_X1_reach (p0 &&& (-p0)) p0 (fun (r1 : Int64) => P r1)
set_option maxHeartbeats 4000000 in
set_option maxRecDepth 100000 in
theorem c_X1_piece (l : Launch) (D : va_G) (cI cJ cZ cA : ClassId) (p0 : Int64) (P : Int64 → Prop) (h : q_X1_piece p0 P) : xMl l yX1_piece wsX1_piece rm_X1_piece D vwCl (xtys cI cJ cZ cA) [] [.long p0] (σ := Unit) (fun _ => []) (fun r _ => P r) := by
  refine xMl_of (cc := cX1_piece) (maxL := 2) (by decide) rfl (Nat.le_of_ble_eq_true rfl) ?_
  intro X K hE
  have K : xk X l rm_X1_piece D vwCl (xtys cI cJ cZ cA) cX1_piece RX1 wsX1_piece 2 := K
  unfold q_X1_piece at h
  refine x_lload_n (pc := 0) K dX1_piece_0 0 rfl rfl ?_
  refine x_lload_n (pc := 1) K dX1_piece_1 0 rfl rfl ?_
  refine x_lneg (pc := 2) K dX1_piece_2 ?_
  refine x_land (pc := 3) K dX1_piece_3 ?_
  refine x_lload_n (pc := 4) K dX1_piece_4 0 rfl rfl ?_
  refine x_pcallSl (pc := 5) (n := 2) K (c_X1_reach l D cI cJ cZ cA (p0 &&& (-p0)) p0 _ h) rfl rfl gX1_piece_X1_reach rfl (by decide +kernel) ⟨Nat.le_of_ble_eq_true rfl, Nat.le_of_ble_eq_true rfl⟩ rfl (av := [.long (p0 &&& (-p0)), .long p0]) rfl (Nat.le_of_ble_eq_true rfl) dX1_piece_5 ⟨Nat.le_of_ble_eq_true rfl, Nat.le_of_ble_eq_true rfl⟩ (fun r1 u9 h => ?_)
  exact hE r1 () _ _ h dX1_piece_8
abbrev rm_X1_piecesOf : Room := { frames := 11, cells := 0, slots := 0, locals := 240 }
theorem inX1_piecesOf : ∀ w ∈ u_ws RX1 TX1 8, w ∈ wsX1_piecesOf := by decide +kernel
theorem kX1_piecesOf_0 : Cond.fieldLink RX1 16 "FourTintsModel" "cells" "[J" ∈ wsX1_piecesOf := by decide +kernel
theorem kX1_piecesOf_1 : Cond.constantLong RX1 84 (-1) ∈ wsX1_piecesOf := by decide +kernel
def q_X1_piecesOf_L9 (P0 : Int32 → Prop) : Nat → Int32 → Int64 → Prop
  | 0, _, _ => False
  | n + 1, x2, x3 => (((lg_cmp x3 (0 : Int64)) = (0 : Int32) → P0 x2) ∧ (¬ (lg_cmp x3 (0 : Int64)) = (0 : Int32) → q_X1_piece x3 (fun (r2 : Int64) => xl (x3 &&& (r2 ^^^ (-1 : Int64))) (fun y3 => q_X1_piecesOf_L9 P0 n (x2 + (1 : Int32)) y3))))
def q_X1_piecesOf (p1 : Int32) (cells : Nat → Int64) (P : Int32 → Prop) : Prop := xin p1 10 = true ∧ xl (cells p1.toNatClampNeg) (fun y1 => (∃ n4 : Nat, q_X1_piecesOf_L9 (fun (v5 : Int32) => P v5) n4 (0 : Int32) y1))
set_option maxHeartbeats 4000000 in
set_option maxRecDepth 100000 in
theorem w_X1_piecesOf_L9 {X : xC} {l : Launch} {D : va_G} {cI cJ cZ cA : ClassId} {V : Nat → Nat} (K : xk X l rm_X1_piecesOf D vwCl (xtys cI cJ cZ cA) cX1_piecesOf RX1 wsX1_piecesOf 5) (cel : Nat → Int32) (tint : Nat → Int32) (cells : Nat → Int64) (near : Nat → Int32) (there : Int32) (ways : Nat → Int64) (more : Nat → Int64) (thrown : Int32) (P0 : Int32 → Prop) : ∀ (n : Nat) (x2 : Int32) (x3 : Int64), q_X1_piecesOf_L9 P0 n x2 x3 → (∀ (z0 : Int32), P0 z0 → xw X 0 0 32 [(2, .int z0)] [] (wX1 cI cJ cZ cA V cel tint cells near there ways more thrown)) → xw X 0 0 9 [(2, .int x2), (3, .long x3)] [] (wX1 cI cJ cZ cA V cel tint cells near there ways more thrown) := by
  intro n
  induction n with
  | zero =>
    intro x2 x3 h
    rw [q_X1_piecesOf_L9] at h
    exact h.elim
  | succ n ih =>
    intro x2 x3 h k0
    rw [q_X1_piecesOf_L9] at h
    refine x_lload_n (pc := 9) K dX1_piecesOf_9 1 rfl rfl ?_
    refine x_lconst (v := (0)) (pc := 10) K dX1_piecesOf_10 (by decide) ?_
    refine x_lcmp (pc := 11) K dX1_piecesOf_11 ?_
    refine x_if_eq (pc := 12) K dX1_piecesOf_12 (tgt := 32) (by decide) (fun c9 => ?_) (fun c9 => ?_)
    · have h := h.1 c9
      refine x_keep [true, false] rfl ?_
      exact k0 x2 h
    · have h := h.2 c9
      refine x_lload_n (pc := 15) K dX1_piecesOf_15 1 rfl rfl ?_
      refine x_lload_n (pc := 16) K dX1_piecesOf_16 1 rfl rfl ?_
      refine x_pcallSl (pc := 17) (n := 1) K (c_X1_piece l D cI cJ cZ cA x3 _ h) rfl rfl gX1_piecesOf_X1_piece rfl (by decide +kernel) ⟨Nat.le_of_ble_eq_true rfl, Nat.le_of_ble_eq_true rfl⟩ rfl (av := [.long x3]) rfl (Nat.le_of_ble_eq_true rfl) dX1_piecesOf_17 ⟨Nat.le_of_ble_eq_true rfl, Nat.le_of_ble_eq_true rfl⟩ (fun r2 u9 h => ?_)
      refine x_ldc2 (pc := 20) (v := (-1)) K kX1_piecesOf_1 dX1_piecesOf_20 ?_
      refine x_lxor (pc := 23) K dX1_piecesOf_23 ?_
      refine x_land (pc := 24) K dX1_piecesOf_24 ?_
      obtain ⟨y3, ey3, h⟩ := xl_o h
      refine x_topl ey3 ?_
      clear ey3
      refine x_lstore_n (lv' := [(2, .int x2), (3, .long y3)]) (pc := 25) K dX1_piecesOf_25 rfl (by decide) rfl ?_
      refine x_iinc (v := x2 + (1 : Int32)) (lv' := [(2, .int (x2 + (1 : Int32))), (3, .long y3)]) (pc := 26) K dX1_piecesOf_26 (k := 0) rfl rfl (by decide) rfl ?_
      refine x_goto (pc := 29) K dX1_piecesOf_29 (tgt := 9) (by decide) ?_
      exact ih (x2 + (1 : Int32)) y3 h k0
set_option maxHeartbeats 4000000 in
set_option maxRecDepth 100000 in
theorem c_X1_piecesOf (l : Launch) (D : va_G) (cI cJ cZ cA : ClassId) (V : Nat → Nat) (p1 : Int32) (cel : Nat → Int32) (tint : Nat → Int32) (cells : Nat → Int64) (near : Nat → Int32) (there : Int32) (ways : Nat → Int64) (more : Nat → Int64) (thrown : Int32) (P : Int32 → Prop) (h : q_X1_piecesOf p1 cells P) : xMi l yX1_piecesOf wsX1_piecesOf rm_X1_piecesOf D vwCl (xtys cI cJ cZ cA) (wX1 cI cJ cZ cA V cel tint cells near there ways more thrown) [.ref (V 0), .int p1] (σ := Unit) (fun _ => (wX1 cI cJ cZ cA V cel tint cells near there ways more thrown)) (fun r _ => P r) := by
  refine xMi_of (cc := cX1_piecesOf) (maxL := 5) (by decide) rfl (Nat.le_of_ble_eq_true rfl) ?_
  intro X K hE
  have K : xk X l rm_X1_piecesOf D vwCl (xtys cI cJ cZ cA) cX1_piecesOf RX1 wsX1_piecesOf 5 := K
  unfold q_X1_piecesOf at h
  refine x_iconst (v := (0)) (pc := 0) K dX1_piecesOf_0 (by decide) ?_
  refine x_istore_n (lv' := [(0, .ref (V 0)), (1, .int p1), (2, .int (0 : Int32))]) (pc := 1) K dX1_piecesOf_1 rfl (by decide) rfl ?_
  refine x_aload_n (pc := 2) K dX1_piecesOf_2 0 rfl rfl ?_
  refine x_get (pc := 3) (ci := 1) (C := RX1) (T := TX1) (N := 8) K (inX1_piecesOf) 0 rfl rfl 2 (by decide) kX1_piecesOf_0 rfl rfl dX1_piecesOf_3 ?_
  refine x_iload_n (pc := 6) K dX1_piecesOf_6 1 rfl rfl ?_
  have g9 := h.1
  replace h := h.2
  refine x_lald (pc := 7) K 3 1 rfl rfl g9 dX1_piecesOf_7 ?_
  clear g9
  obtain ⟨y1, ey1, h⟩ := xl_o h
  refine x_topl ey1 ?_
  clear ey1
  refine x_lstore_n (lv' := [(0, .ref (V 0)), (1, .int p1), (2, .int (0 : Int32)), (3, .long y1)]) (pc := 8) K dX1_piecesOf_8 rfl (by decide) rfl ?_
  refine x_keep [false, false, true, true] rfl ?_
  obtain ⟨n4, h⟩ := h
  refine w_X1_piecesOf_L9 K cel tint cells near there ways more thrown _ n4 (0 : Int32) y1 h (fun v5 h => ?_)
  refine x_iload_n (pc := 32) K dX1_piecesOf_32 0 rfl rfl ?_
  exact hE v5 () _ _ h dX1_piecesOf_33
