abbrev rm_X1_pieces : Room := { frames := 12, cells := 0, slots := 0, locals := 280 }
def q_X1_pieces (p1 : Int32) (cel : Nat → Int32) (cells : Nat → Int64) (near : Nat → Int32) (P : Int32 → (Nat → Int64) → (Nat → Int32) → Int32 → Int32 → Prop) : Prop := q_X1_looks cel cells near (fun (cells_1 : Nat → Int64) (near_2 : Nat → Int32) (there_3 : Int32) => q_X1_isCountry p1 (fun (r4 : Int32) => q_X1_goes r4 (1 : Int32) (1 : Int32) (fun (r6 : Int32) (thrown_5 : Int32) => ((r6 = (0 : Int32) → P (0 : Int32) cells_1 near_2 there_3 thrown_5) ∧ (¬ r6 = (0 : Int32) → q_X1_piecesOf p1 cells_1 (fun (r7 : Int32) => P r7 cells_1 near_2 there_3 thrown_5))))))
set_option maxHeartbeats 4000000 in
set_option maxRecDepth 100000 in
theorem c_X1_pieces (l : Launch) (D : va_G) (cI cJ cZ cA : ClassId) (V : Nat → Nat) (p1 : Int32) (cel : Nat → Int32) (tint : Nat → Int32) (cells : Nat → Int64) (near : Nat → Int32) (there : Int32) (ways : Nat → Int64) (more : Nat → Int64) (thrown : Int32) (P : Int32 → (Nat → Int64) → (Nat → Int32) → Int32 → Int32 → Prop) (h : q_X1_pieces p1 cel cells near P) : xMi l yX1_pieces wsX1_pieces rm_X1_pieces D vwCl (xtys cI cJ cZ cA) (wX1 cI cJ cZ cA V cel tint cells near there ways more thrown) [.ref (V 0), .int p1] (σ := (Nat → Int64) × (Nat → Int32) × Int32 × Int32) (fun u => (wX1 cI cJ cZ cA V cel tint u.1 u.2.1 u.2.2.1 ways more u.2.2.2)) (fun r u => P r u.1 u.2.1 u.2.2.1 u.2.2.2) := by
  refine xMi_of (cc := cX1_pieces) (maxL := 2) (by decide) rfl (Nat.le_of_ble_eq_true rfl) ?_
  intro X K hE
  have K : xk X l rm_X1_pieces D vwCl (xtys cI cJ cZ cA) cX1_pieces RX1 wsX1_pieces 2 := K
  unfold q_X1_pieces at h
  refine x_aload_n (pc := 0) K dX1_pieces_0 0 rfl rfl ?_
  refine x_callVv (pc := 1) (n := 0) K (c_X1_looks l D cI cJ cZ cA V cel tint cells near there ways more thrown _ h) rfl rfl gX1_pieces_X1_looks rfl (by decide +kernel) ⟨Nat.le_of_ble_eq_true rfl, Nat.le_of_ble_eq_true rfl⟩ rfl (av := []) (b := V 0) (ci := 1) (q0 := 0) rfl rfl rfl (Nat.le_of_ble_eq_true rfl) [0, 1, 2, 3, 4, 5, 6] [] (wr := []) rfl rfl rfl rfl (by decide) dX1_pieces_1 ⟨Nat.le_of_ble_eq_true rfl, Nat.le_of_ble_eq_true rfl⟩ (fun u9 h => ?_)
  obtain ⟨cells_1, near_2, there_3⟩ := u9
  refine x_ws (ws' := (wX1 cI cJ cZ cA V cel tint cells_1 near_2 there_3 ways more thrown)) rfl ?_
  refine x_aload_n (pc := 4) K dX1_pieces_4 0 rfl rfl ?_
  refine x_iload_n (pc := 5) K dX1_pieces_5 1 rfl rfl ?_
  refine x_pcallSz (pc := 6) (n := 1) K (c_X1_isCountry l D cI cJ cZ cA p1 _ h) rfl rfl gX1_pieces_X1_isCountry rfl (by decide +kernel) ⟨Nat.le_of_ble_eq_true rfl, Nat.le_of_ble_eq_true rfl⟩ rfl (av := [.int p1]) rfl (Nat.le_of_ble_eq_true rfl) dX1_pieces_6 ⟨Nat.le_of_ble_eq_true rfl, Nat.le_of_ble_eq_true rfl⟩ (fun r4 u9 h => ?_)
  refine x_iconst (v := (1)) (pc := 9) K dX1_pieces_9 (by decide) ?_
  refine x_iconst (v := (1)) (pc := 10) K dX1_pieces_10 (by decide) ?_
  refine x_callVz (pc := 11) (n := 3) K (c_X1_goes l D cI cJ cZ cA V r4 (1 : Int32) (1 : Int32) cel tint cells_1 near_2 there_3 ways more thrown _ h) rfl rfl gX1_pieces_X1_goes rfl (by decide +kernel) ⟨Nat.le_of_ble_eq_true rfl, Nat.le_of_ble_eq_true rfl⟩ rfl (av := [.int r4, .int (1 : Int32), .int (1 : Int32)]) (b := V 0) (ci := 1) (q0 := 0) rfl rfl rfl (Nat.le_of_ble_eq_true rfl) [0, 1, 2, 3, 4, 5, 6] [] (wr := []) rfl rfl rfl rfl (by decide) dX1_pieces_11 ⟨Nat.le_of_ble_eq_true rfl, Nat.le_of_ble_eq_true rfl⟩ (fun r6 thrown_5 h => ?_)
  refine x_ws (ws' := (wX1 cI cJ cZ cA V cel tint cells_1 near_2 there_3 ways more thrown_5)) rfl ?_
  refine x_if_eq (pc := 14) K dX1_pieces_14 (tgt := 25) (by decide) (fun c9 => ?_) (fun c9 => ?_)
  · have h := h.1 c9
    refine x_keep [false, false] rfl ?_
    refine x_iconst (v := (0)) (pc := 25) K dX1_pieces_25 (by decide) ?_
    exact hE (0 : Int32) (cells_1, near_2, there_3, thrown_5) _ _ h dX1_pieces_26
  · have h := h.2 c9
    refine x_aload_n (pc := 17) K dX1_pieces_17 0 rfl rfl ?_
    refine x_iload_n (pc := 18) K dX1_pieces_18 1 rfl rfl ?_
    refine x_callVi (pc := 19) (n := 1) K (c_X1_piecesOf l D cI cJ cZ cA V p1 cel tint cells_1 near_2 there_3 ways more thrown_5 _ h) rfl rfl gX1_pieces_X1_piecesOf rfl (by decide +kernel) ⟨Nat.le_of_ble_eq_true rfl, Nat.le_of_ble_eq_true rfl⟩ rfl (av := [.int p1]) (b := V 0) (ci := 1) (q0 := 0) rfl rfl rfl (Nat.le_of_ble_eq_true rfl) [0, 1, 2, 3, 4, 5, 6] [] (wr := []) rfl rfl rfl rfl (by decide) dX1_pieces_19 ⟨Nat.le_of_ble_eq_true rfl, Nat.le_of_ble_eq_true rfl⟩ (fun r7 u9 h => ?_)
    refine x_ws (ws' := (wX1 cI cJ cZ cA V cel tint cells_1 near_2 there_3 ways more thrown_5)) rfl ?_
    refine x_goto (pc := 22) K dX1_pieces_22 (tgt := 26) (by decide) ?_
    refine x_keep [false, false] rfl ?_
    exact hE r7 (cells_1, near_2, there_3, thrown_5) _ _ h dX1_pieces_26
abbrev rm_X1_largestPiece : Room := { frames := 11, cells := 0, slots := 0, locals := 240 }
theorem inX1_largestPiece : ∀ w ∈ u_ws RX1 TX1 8, w ∈ wsX1_largestPiece := by decide +kernel
theorem kX1_largestPiece_0 : Cond.fieldLink RX1 16 "FourTintsModel" "cells" "[J" ∈ wsX1_largestPiece := by decide +kernel
theorem kX1_largestPiece_1 : Cond.constantLong RX1 84 (-1) ∈ wsX1_largestPiece := by decide +kernel
def q_X1_largestPiece_L28 (P0 : Int32 → Prop) : Nat → Int32 → Int64 → Prop
  | 0, _, _ => False
  | n + 1, x2, x3 => (((lg_cmp x3 (0 : Int64)) = (0 : Int32) → P0 x2) ∧ (¬ (lg_cmp x3 (0 : Int64)) = (0 : Int32) → q_X1_piece x3 (fun (r8 : Int64) => q_X1_bits r8 (fun (r9 : Int32) => xj1 (fun (v11 : Int32) => q_X1_piece x3 (fun (r12 : Int64) => xl (x3 &&& (r12 ^^^ (-1 : Int64))) (fun y13 => q_X1_largestPiece_L28 P0 n v11 y13))) (fun (J10 : Int32 → Prop) => ((r9 ≤ x2 → J10 x2) ∧ (¬ r9 ≤ x2 → J10 r9)))))))
def q_X1_largestPiece (p1 : Int32) (cel : Nat → Int32) (cells : Nat → Int64) (near : Nat → Int32) (P : Int32 → (Nat → Int64) → (Nat → Int32) → Int32 → Int32 → Prop) : Prop := q_X1_looks cel cells near (fun (cells_1 : Nat → Int64) (near_2 : Nat → Int32) (there_3 : Int32) => q_X1_isCountry p1 (fun (r4 : Int32) => q_X1_goes r4 (1 : Int32) (1 : Int32) (fun (r6 : Int32) (thrown_5 : Int32) => ((¬ r6 = (0 : Int32) → xin p1 10 = true ∧ xl (cells_1 p1.toNatClampNeg) (fun y7 => (∃ n14 : Nat, q_X1_largestPiece_L28 (fun (v15 : Int32) => P v15 cells_1 near_2 there_3 thrown_5) n14 (0 : Int32) y7))) ∧ (r6 = (0 : Int32) → P (0 : Int32) cells_1 near_2 there_3 thrown_5)))))
set_option maxHeartbeats 4000000 in
set_option maxRecDepth 100000 in
theorem w_X1_largestPiece_L28 {X : xC} {l : Launch} {D : va_G} {cI cJ cZ cA : ClassId} {V : Nat → Nat} (K : xk X l rm_X1_largestPiece D vwCl (xtys cI cJ cZ cA) cX1_largestPiece RX1 wsX1_largestPiece 6) (cel : Nat → Int32) (tint : Nat → Int32) (cells : Nat → Int64) (near : Nat → Int32) (there : Int32) (ways : Nat → Int64) (more : Nat → Int64) (thrown : Int32) (P0 : Int32 → Prop) : ∀ (n : Nat) (x2 : Int32) (x3 : Int64), q_X1_largestPiece_L28 P0 n x2 x3 → (∀ (z0 : Int32), P0 z0 → xw X 0 0 70 [(2, .int z0)] [] (wX1 cI cJ cZ cA V cel tint cells near there ways more thrown)) → xw X 0 0 28 [(2, .int x2), (3, .long x3)] [] (wX1 cI cJ cZ cA V cel tint cells near there ways more thrown) := by
  intro n
  induction n with
  | zero =>
    intro x2 x3 h
    rw [q_X1_largestPiece_L28] at h
    exact h.elim
  | succ n ih =>
    intro x2 x3 h k0
    rw [q_X1_largestPiece_L28] at h
    refine x_lload_n (pc := 28) K dX1_largestPiece_28 1 rfl rfl ?_
    refine x_lconst (v := (0)) (pc := 29) K dX1_largestPiece_29 (by decide) ?_
    refine x_lcmp (pc := 30) K dX1_largestPiece_30 ?_
    refine x_if_eq (pc := 31) K dX1_largestPiece_31 (tgt := 70) (by decide) (fun c9 => ?_) (fun c9 => ?_)
    · have h := h.1 c9
      refine x_keep [true, false] rfl ?_
      exact k0 x2 h
    · have h := h.2 c9
      refine x_lload_n (pc := 34) K dX1_largestPiece_34 1 rfl rfl ?_
      refine x_pcallSl (pc := 35) (n := 1) K (c_X1_piece l D cI cJ cZ cA x3 _ h) rfl rfl gX1_largestPiece_X1_piece rfl (by decide +kernel) ⟨Nat.le_of_ble_eq_true rfl, Nat.le_of_ble_eq_true rfl⟩ rfl (av := [.long x3]) rfl (Nat.le_of_ble_eq_true rfl) dX1_largestPiece_35 ⟨Nat.le_of_ble_eq_true rfl, Nat.le_of_ble_eq_true rfl⟩ (fun r8 u9 h => ?_)
      refine x_pcallSi (pc := 38) (n := 1) K (c_X1_bits l D cI cJ cZ cA r8 _ h) rfl rfl gX1_largestPiece_X1_bits rfl (by decide +kernel) ⟨Nat.le_of_ble_eq_true rfl, Nat.le_of_ble_eq_true rfl⟩ rfl (av := [.long r8]) rfl (Nat.le_of_ble_eq_true rfl) dX1_largestPiece_38 ⟨Nat.le_of_ble_eq_true rfl, Nat.le_of_ble_eq_true rfl⟩ (fun r9 u9 h => ?_)
      refine x_istore (lv' := [(2, .int x2), (3, .long x3), (5, .int r9)]) (pc := 41) K dX1_largestPiece_41 (by decide) rfl ?_
      refine x_iload (pc := 43) K dX1_largestPiece_43 2 rfl ?_
      refine x_iload_n (pc := 45) K dX1_largestPiece_45 0 rfl rfl ?_
      obtain ⟨J10, hJ10, h⟩ := xj1_o h
      have kJ10 : ∀ (v11 : Int32), J10 v11 → xw X 0 0 55 [(3, .long x3)] [.int v11] (wX1 cI cJ cZ cA V cel tint cells near there ways more thrown) := by
        intro v11 hj
        have h := hJ10 v11 hj
        refine x_istore_n (lv' := [(2, .int v11), (3, .long x3)]) (pc := 55) K dX1_largestPiece_55 rfl (by decide) rfl ?_
        refine x_lload_n (pc := 56) K dX1_largestPiece_56 1 rfl rfl ?_
        refine x_lload_n (pc := 57) K dX1_largestPiece_57 1 rfl rfl ?_
        refine x_pcallSl (pc := 58) (n := 1) K (c_X1_piece l D cI cJ cZ cA x3 _ h) rfl rfl gX1_largestPiece_X1_piece rfl (by decide +kernel) ⟨Nat.le_of_ble_eq_true rfl, Nat.le_of_ble_eq_true rfl⟩ rfl (av := [.long x3]) rfl (Nat.le_of_ble_eq_true rfl) dX1_largestPiece_58 ⟨Nat.le_of_ble_eq_true rfl, Nat.le_of_ble_eq_true rfl⟩ (fun r12 u9 h => ?_)
        refine x_ldc2 (pc := 61) (v := (-1)) K kX1_largestPiece_1 dX1_largestPiece_61 ?_
        refine x_lxor (pc := 64) K dX1_largestPiece_64 ?_
        refine x_land (pc := 65) K dX1_largestPiece_65 ?_
        obtain ⟨y13, ey13, h⟩ := xl_o h
        refine x_topl ey13 ?_
        clear ey13
        refine x_lstore_n (lv' := [(2, .int v11), (3, .long y13)]) (pc := 66) K dX1_largestPiece_66 rfl (by decide) rfl ?_
        refine x_goto (pc := 67) K dX1_largestPiece_67 (tgt := 28) (by decide) ?_
        exact ih v11 y13 h k0
      refine x_icmp_le (pc := 46) K dX1_largestPiece_46 (tgt := 54) (by decide) (fun c9 => ?_) (fun c9 => ?_)
      · have h := h.1 c9
        refine x_keep [true, true, false] rfl ?_
        refine x_iload_n (pc := 54) K dX1_largestPiece_54 0 rfl rfl ?_
        refine x_keep [false, true] rfl ?_
        exact kJ10 x2 h
      · have h := h.2 c9
        refine x_keep [false, true, true] rfl ?_
        refine x_iload (pc := 49) K dX1_largestPiece_49 1 rfl ?_
        refine x_goto (pc := 51) K dX1_largestPiece_51 (tgt := 55) (by decide) ?_
        refine x_keep [true, false] rfl ?_
        exact kJ10 r9 h
set_option maxHeartbeats 4000000 in
set_option maxRecDepth 100000 in
theorem c_X1_largestPiece (l : Launch) (D : va_G) (cI cJ cZ cA : ClassId) (V : Nat → Nat) (p1 : Int32) (cel : Nat → Int32) (tint : Nat → Int32) (cells : Nat → Int64) (near : Nat → Int32) (there : Int32) (ways : Nat → Int64) (more : Nat → Int64) (thrown : Int32) (P : Int32 → (Nat → Int64) → (Nat → Int32) → Int32 → Int32 → Prop) (h : q_X1_largestPiece p1 cel cells near P) : xMi l yX1_largestPiece wsX1_largestPiece rm_X1_largestPiece D vwCl (xtys cI cJ cZ cA) (wX1 cI cJ cZ cA V cel tint cells near there ways more thrown) [.ref (V 0), .int p1] (σ := (Nat → Int64) × (Nat → Int32) × Int32 × Int32) (fun u => (wX1 cI cJ cZ cA V cel tint u.1 u.2.1 u.2.2.1 ways more u.2.2.2)) (fun r u => P r u.1 u.2.1 u.2.2.1 u.2.2.2) := by
  refine xMi_of (cc := cX1_largestPiece) (maxL := 6) (by decide) rfl (Nat.le_of_ble_eq_true rfl) ?_
  intro X K hE
  have K : xk X l rm_X1_largestPiece D vwCl (xtys cI cJ cZ cA) cX1_largestPiece RX1 wsX1_largestPiece 6 := K
  unfold q_X1_largestPiece at h
  refine x_aload_n (pc := 0) K dX1_largestPiece_0 0 rfl rfl ?_
  refine x_callVv (pc := 1) (n := 0) K (c_X1_looks l D cI cJ cZ cA V cel tint cells near there ways more thrown _ h) rfl rfl gX1_largestPiece_X1_looks rfl (by decide +kernel) ⟨Nat.le_of_ble_eq_true rfl, Nat.le_of_ble_eq_true rfl⟩ rfl (av := []) (b := V 0) (ci := 1) (q0 := 0) rfl rfl rfl (Nat.le_of_ble_eq_true rfl) [0, 1, 2, 3, 4, 5, 6] [] (wr := []) rfl rfl rfl rfl (by decide) dX1_largestPiece_1 ⟨Nat.le_of_ble_eq_true rfl, Nat.le_of_ble_eq_true rfl⟩ (fun u9 h => ?_)
  obtain ⟨cells_1, near_2, there_3⟩ := u9
  refine x_ws (ws' := (wX1 cI cJ cZ cA V cel tint cells_1 near_2 there_3 ways more thrown)) rfl ?_
  refine x_aload_n (pc := 4) K dX1_largestPiece_4 0 rfl rfl ?_
  refine x_iload_n (pc := 5) K dX1_largestPiece_5 1 rfl rfl ?_
  refine x_pcallSz (pc := 6) (n := 1) K (c_X1_isCountry l D cI cJ cZ cA p1 _ h) rfl rfl gX1_largestPiece_X1_isCountry rfl (by decide +kernel) ⟨Nat.le_of_ble_eq_true rfl, Nat.le_of_ble_eq_true rfl⟩ rfl (av := [.int p1]) rfl (Nat.le_of_ble_eq_true rfl) dX1_largestPiece_6 ⟨Nat.le_of_ble_eq_true rfl, Nat.le_of_ble_eq_true rfl⟩ (fun r4 u9 h => ?_)
  refine x_iconst (v := (1)) (pc := 9) K dX1_largestPiece_9 (by decide) ?_
  refine x_iconst (v := (1)) (pc := 10) K dX1_largestPiece_10 (by decide) ?_
  refine x_callVz (pc := 11) (n := 3) K (c_X1_goes l D cI cJ cZ cA V r4 (1 : Int32) (1 : Int32) cel tint cells_1 near_2 there_3 ways more thrown _ h) rfl rfl gX1_largestPiece_X1_goes rfl (by decide +kernel) ⟨Nat.le_of_ble_eq_true rfl, Nat.le_of_ble_eq_true rfl⟩ rfl (av := [.int r4, .int (1 : Int32), .int (1 : Int32)]) (b := V 0) (ci := 1) (q0 := 0) rfl rfl rfl (Nat.le_of_ble_eq_true rfl) [0, 1, 2, 3, 4, 5, 6] [] (wr := []) rfl rfl rfl rfl (by decide) dX1_largestPiece_11 ⟨Nat.le_of_ble_eq_true rfl, Nat.le_of_ble_eq_true rfl⟩ (fun r6 thrown_5 h => ?_)
  refine x_ws (ws' := (wX1 cI cJ cZ cA V cel tint cells_1 near_2 there_3 ways more thrown_5)) rfl ?_
  refine x_if_ne (pc := 14) K dX1_largestPiece_14 (tgt := 19) (by decide) (fun c9 => ?_) (fun c9 => ?_)
  · have h := h.1 c9
    refine x_iconst (v := (0)) (pc := 19) K dX1_largestPiece_19 (by decide) ?_
    refine x_istore_n (lv' := [(0, .ref (V 0)), (1, .int p1), (2, .int (0 : Int32))]) (pc := 20) K dX1_largestPiece_20 rfl (by decide) rfl ?_
    refine x_aload_n (pc := 21) K dX1_largestPiece_21 0 rfl rfl ?_
    refine x_get (pc := 22) (ci := 1) (C := RX1) (T := TX1) (N := 8) K (inX1_largestPiece) 0 rfl rfl 2 (by decide) kX1_largestPiece_0 rfl rfl dX1_largestPiece_22 ?_
    refine x_iload_n (pc := 25) K dX1_largestPiece_25 1 rfl rfl ?_
    have g9 := h.1
    replace h := h.2
    refine x_lald (pc := 26) K 3 1 rfl rfl g9 dX1_largestPiece_26 ?_
    clear g9
    obtain ⟨y7, ey7, h⟩ := xl_o h
    refine x_topl ey7 ?_
    clear ey7
    refine x_lstore_n (lv' := [(0, .ref (V 0)), (1, .int p1), (2, .int (0 : Int32)), (3, .long y7)]) (pc := 27) K dX1_largestPiece_27 rfl (by decide) rfl ?_
    refine x_keep [false, false, true, true] rfl ?_
    obtain ⟨n14, h⟩ := h
    refine w_X1_largestPiece_L28 K cel tint cells_1 near_2 there_3 ways more thrown_5 _ n14 (0 : Int32) y7 h (fun v15 h => ?_)
    refine x_iload_n (pc := 70) K dX1_largestPiece_70 0 rfl rfl ?_
    exact hE v15 (cells_1, near_2, there_3, thrown_5) _ _ h dX1_largestPiece_71
  · have h := h.2 c9
    refine x_keep [false, false] rfl ?_
    refine x_iconst (v := (0)) (pc := 17) K dX1_largestPiece_17 (by decide) ?_
    exact hE (0 : Int32) (cells_1, near_2, there_3, thrown_5) _ _ h dX1_largestPiece_18
abbrev rm_X1_scattered : Room := { frames := 12, cells := 0, slots := 0, locals := 280 }
theorem inX1_scattered : ∀ w ∈ u_ws RX1 TX1 8, w ∈ wsX1_scattered := by decide +kernel
theorem kX1_scattered_0 : Cond.fieldLink RX1 29 "FourTintsModel" "thrown" "I" ∈ wsX1_scattered := by decide +kernel
def q_X1_scattered_L13 (cells : Nat → Int64) (P0 : Int32 → Prop) : Nat → Int32 → Int32 → Prop
  | 0, _, _ => False
  | n + 1, x1, x2 => (((10 : Int32) ≤ x2 → P0 x1) ∧ (¬ (10 : Int32) ≤ x2 → q_X1_piecesOf x2 cells (fun (r4 : Int32) => ((r4 ≤ (1 : Int32) → xl (x1 + (0 : Int32)) (fun y5 => q_X1_scattered_L13 cells P0 n y5 (x2 + (1 : Int32)))) ∧ (¬ r4 ≤ (1 : Int32) → xl (x1 + (1 : Int32)) (fun y6 => q_X1_scattered_L13 cells P0 n y6 (x2 + (1 : Int32))))))))
def q_X1_scattered (cel : Nat → Int32) (cells : Nat → Int64) (near : Nat → Int32) (P : Int32 → (Nat → Int64) → (Nat → Int32) → Int32 → Int32 → Prop) : Prop := q_X1_looks cel cells near (fun (cells_1 : Nat → Int64) (near_2 : Nat → Int32) (there_3 : Int32) => (∃ n7 : Nat, q_X1_scattered_L13 cells_1 (fun (v8 : Int32) => P v8 cells_1 near_2 there_3 (0 : Int32)) n7 (0 : Int32) (0 : Int32)))
set_option maxHeartbeats 4000000 in
set_option maxRecDepth 100000 in
theorem w_X1_scattered_L13 {X : xC} {l : Launch} {D : va_G} {cI cJ cZ cA : ClassId} {V : Nat → Nat} (K : xk X l rm_X1_scattered D vwCl (xtys cI cJ cZ cA) cX1_scattered RX1 wsX1_scattered 3) (cel : Nat → Int32) (tint : Nat → Int32) (cells : Nat → Int64) (near : Nat → Int32) (there : Int32) (ways : Nat → Int64) (more : Nat → Int64) (thrown : Int32) (P0 : Int32 → Prop) : ∀ (n : Nat) (x1 : Int32) (x2 : Int32), q_X1_scattered_L13 cells P0 n x1 x2 → (∀ (z0 : Int32), P0 z0 → xw X 0 0 42 [(1, .int z0)] [] (wX1 cI cJ cZ cA V cel tint cells near there ways more thrown)) → xw X 0 0 13 [(0, .ref (V 0)), (1, .int x1), (2, .int x2)] [] (wX1 cI cJ cZ cA V cel tint cells near there ways more thrown) := by
  intro n
  induction n with
  | zero =>
    intro x1 x2 h
    rw [q_X1_scattered_L13] at h
    exact h.elim
  | succ n ih =>
    intro x1 x2 h k0
    rw [q_X1_scattered_L13] at h
    refine x_iload_n (pc := 13) K dX1_scattered_13 2 rfl rfl ?_
    refine x_bipush (v := (10)) (pc := 14) K dX1_scattered_14 (by decide) ?_
    refine x_icmp_ge (pc := 16) K dX1_scattered_16 (tgt := 42) (by decide) (fun c9 => ?_) (fun c9 => ?_)
    · have h := h.1 c9
      refine x_keep [false, true, false] rfl ?_
      exact k0 x1 h
    · have h := h.2 c9
      refine x_iload_n (pc := 19) K dX1_scattered_19 1 rfl rfl ?_
      refine x_aload_n (pc := 20) K dX1_scattered_20 0 rfl rfl ?_
      refine x_iload_n (pc := 21) K dX1_scattered_21 2 rfl rfl ?_
      refine x_callVi (pc := 22) (n := 1) K (c_X1_piecesOf l D cI cJ cZ cA V x2 cel tint cells near there ways more thrown _ h) rfl rfl gX1_scattered_X1_piecesOf rfl (by decide +kernel) ⟨Nat.le_of_ble_eq_true rfl, Nat.le_of_ble_eq_true rfl⟩ rfl (av := [.int x2]) (b := V 0) (ci := 1) (q0 := 0) rfl rfl rfl (Nat.le_of_ble_eq_true rfl) [0, 1, 2, 3, 4, 5, 6] [] (wr := []) rfl rfl rfl rfl (by decide) dX1_scattered_22 ⟨Nat.le_of_ble_eq_true rfl, Nat.le_of_ble_eq_true rfl⟩ (fun r4 u9 h => ?_)
      refine x_ws (ws' := (wX1 cI cJ cZ cA V cel tint cells near there ways more thrown)) rfl ?_
      refine x_iconst (v := (1)) (pc := 25) K dX1_scattered_25 (by decide) ?_
      refine x_icmp_le (pc := 26) K dX1_scattered_26 (tgt := 33) (by decide) (fun c9 => ?_) (fun c9 => ?_)
      · have h := h.1 c9
        refine x_keep [true, false, true] rfl ?_
        refine x_iconst (v := (0)) (pc := 33) K dX1_scattered_33 (by decide) ?_
        refine x_iadd (pc := 34) K dX1_scattered_34 ?_
        obtain ⟨y5, ey5, h⟩ := xl_o h
        refine x_topi ey5 ?_
        clear ey5
        refine x_istore_n (lv' := [(0, .ref (V 0)), (1, .int y5), (2, .int x2)]) (pc := 35) K dX1_scattered_35 rfl (by decide) rfl ?_
        refine x_iinc (v := x2 + (1 : Int32)) (lv' := [(0, .ref (V 0)), (1, .int y5), (2, .int (x2 + (1 : Int32)))]) (pc := 36) K dX1_scattered_36 (k := 2) rfl rfl (by decide) rfl ?_
        refine x_goto (pc := 39) K dX1_scattered_39 (tgt := 13) (by decide) ?_
        exact ih y5 (x2 + (1 : Int32)) h k0
      · have h := h.2 c9
        refine x_keep [true, false, true] rfl ?_
        refine x_iconst (v := (1)) (pc := 29) K dX1_scattered_29 (by decide) ?_
        refine x_goto (pc := 30) K dX1_scattered_30 (tgt := 34) (by decide) ?_
        refine x_iadd (pc := 34) K dX1_scattered_34 ?_
        obtain ⟨y6, ey6, h⟩ := xl_o h
        refine x_topi ey6 ?_
        clear ey6
        refine x_istore_n (lv' := [(0, .ref (V 0)), (1, .int y6), (2, .int x2)]) (pc := 35) K dX1_scattered_35 rfl (by decide) rfl ?_
        refine x_iinc (v := x2 + (1 : Int32)) (lv' := [(0, .ref (V 0)), (1, .int y6), (2, .int (x2 + (1 : Int32)))]) (pc := 36) K dX1_scattered_36 (k := 2) rfl rfl (by decide) rfl ?_
        refine x_goto (pc := 39) K dX1_scattered_39 (tgt := 13) (by decide) ?_
        exact ih y6 (x2 + (1 : Int32)) h k0
set_option maxHeartbeats 4000000 in
set_option maxRecDepth 100000 in
theorem c_X1_scattered (l : Launch) (D : va_G) (cI cJ cZ cA : ClassId) (V : Nat → Nat) (cel : Nat → Int32) (tint : Nat → Int32) (cells : Nat → Int64) (near : Nat → Int32) (there : Int32) (ways : Nat → Int64) (more : Nat → Int64) (thrown : Int32) (P : Int32 → (Nat → Int64) → (Nat → Int32) → Int32 → Int32 → Prop) (h : q_X1_scattered cel cells near P) : xMi l yX1_scattered wsX1_scattered rm_X1_scattered D vwCl (xtys cI cJ cZ cA) (wX1 cI cJ cZ cA V cel tint cells near there ways more thrown) [.ref (V 0)] (σ := (Nat → Int64) × (Nat → Int32) × Int32 × Int32) (fun u => (wX1 cI cJ cZ cA V cel tint u.1 u.2.1 u.2.2.1 ways more u.2.2.2)) (fun r u => P r u.1 u.2.1 u.2.2.1 u.2.2.2) := by
  refine xMi_of (cc := cX1_scattered) (maxL := 3) (by decide) rfl (Nat.le_of_ble_eq_true rfl) ?_
  intro X K hE
  have K : xk X l rm_X1_scattered D vwCl (xtys cI cJ cZ cA) cX1_scattered RX1 wsX1_scattered 3 := K
  unfold q_X1_scattered at h
  refine x_aload_n (pc := 0) K dX1_scattered_0 0 rfl rfl ?_
  refine x_callVv (pc := 1) (n := 0) K (c_X1_looks l D cI cJ cZ cA V cel tint cells near there ways more thrown _ h) rfl rfl gX1_scattered_X1_looks rfl (by decide +kernel) ⟨Nat.le_of_ble_eq_true rfl, Nat.le_of_ble_eq_true rfl⟩ rfl (av := []) (b := V 0) (ci := 1) (q0 := 0) rfl rfl rfl (Nat.le_of_ble_eq_true rfl) [0, 1, 2, 3, 4, 5, 6] [] (wr := []) rfl rfl rfl rfl (by decide) dX1_scattered_1 ⟨Nat.le_of_ble_eq_true rfl, Nat.le_of_ble_eq_true rfl⟩ (fun u9 h => ?_)
  obtain ⟨cells_1, near_2, there_3⟩ := u9
  refine x_ws (ws' := (wX1 cI cJ cZ cA V cel tint cells_1 near_2 there_3 ways more thrown)) rfl ?_
  refine x_aload_n (pc := 4) K dX1_scattered_4 0 rfl rfl ?_
  refine x_iconst (v := (0)) (pc := 5) K dX1_scattered_5 (by decide) ?_
  refine x_put (ws' := (wX1 cI cJ cZ cA V cel tint cells_1 near_2 there_3 ways more (0 : Int32))) (pc := 6) (ci := 1) (C := RX1) (T := TX1) (N := 8) (ty := .int) K (inX1_scattered) tyX1 tyX1_ok nmX1 0 rfl rfl 7 (by decide) kX1_scattered_0 rfl rfl rfl rfl rfl (Nat.le_of_ble_eq_true rfl) rfl dX1_scattered_6 ?_
  refine x_iconst (v := (0)) (pc := 9) K dX1_scattered_9 (by decide) ?_
  refine x_istore_n (lv' := [(0, .ref (V 0)), (1, .int (0 : Int32))]) (pc := 10) K dX1_scattered_10 rfl (by decide) rfl ?_
  refine x_iconst (v := (0)) (pc := 11) K dX1_scattered_11 (by decide) ?_
  refine x_istore_n (lv' := [(0, .ref (V 0)), (1, .int (0 : Int32)), (2, .int (0 : Int32))]) (pc := 12) K dX1_scattered_12 rfl (by decide) rfl ?_
  obtain ⟨n7, h⟩ := h
  refine w_X1_scattered_L13 K cel tint cells_1 near_2 there_3 ways more (0 : Int32) _ n7 (0 : Int32) (0 : Int32) h (fun v8 h => ?_)
  refine x_iload_n (pc := 42) K dX1_scattered_42 0 rfl rfl ?_
  exact hE v8 (cells_1, near_2, there_3, (0 : Int32)) _ _ h dX1_scattered_43
abbrev rm_X1_neighbours : Room := { frames := 10, cells := 0, slots := 0, locals := 200 }
theorem inX1_neighbours : ∀ w ∈ u_ws RX1 TX1 8, w ∈ wsX1_neighbours := by decide +kernel
theorem kX1_neighbours_0 : Cond.fieldLink RX1 20 "FourTintsModel" "near" "[I" ∈ wsX1_neighbours := by decide +kernel
def q_X1_neighbours (p1 : Int32) (cel : Nat → Int32) (cells : Nat → Int64) (near : Nat → Int32) (P : Int32 → (Nat → Int64) → (Nat → Int32) → Int32 → Int32 → Prop) : Prop := q_X1_looks cel cells near (fun (cells_1 : Nat → Int64) (near_2 : Nat → Int32) (there_3 : Int32) => q_X1_isCountry p1 (fun (r4 : Int32) => q_X1_goes r4 (1 : Int32) (1 : Int32) (fun (r6 : Int32) (thrown_5 : Int32) => ((r6 = (0 : Int32) → P (0 : Int32) cells_1 near_2 there_3 thrown_5) ∧ (¬ r6 = (0 : Int32) → xin p1 10 = true ∧ q_X1_bits ((near_2 p1.toNatClampNeg).toInt64) (fun (r7 : Int32) => P r7 cells_1 near_2 there_3 thrown_5))))))
set_option maxHeartbeats 4000000 in
set_option maxRecDepth 100000 in
theorem c_X1_neighbours (l : Launch) (D : va_G) (cI cJ cZ cA : ClassId) (V : Nat → Nat) (p1 : Int32) (cel : Nat → Int32) (tint : Nat → Int32) (cells : Nat → Int64) (near : Nat → Int32) (there : Int32) (ways : Nat → Int64) (more : Nat → Int64) (thrown : Int32) (P : Int32 → (Nat → Int64) → (Nat → Int32) → Int32 → Int32 → Prop) (h : q_X1_neighbours p1 cel cells near P) : xMi l yX1_neighbours wsX1_neighbours rm_X1_neighbours D vwCl (xtys cI cJ cZ cA) (wX1 cI cJ cZ cA V cel tint cells near there ways more thrown) [.ref (V 0), .int p1] (σ := (Nat → Int64) × (Nat → Int32) × Int32 × Int32) (fun u => (wX1 cI cJ cZ cA V cel tint u.1 u.2.1 u.2.2.1 ways more u.2.2.2)) (fun r u => P r u.1 u.2.1 u.2.2.1 u.2.2.2) := by
  refine xMi_of (cc := cX1_neighbours) (maxL := 2) (by decide) rfl (Nat.le_of_ble_eq_true rfl) ?_
  intro X K hE
  have K : xk X l rm_X1_neighbours D vwCl (xtys cI cJ cZ cA) cX1_neighbours RX1 wsX1_neighbours 2 := K
  unfold q_X1_neighbours at h
  refine x_aload_n (pc := 0) K dX1_neighbours_0 0 rfl rfl ?_
  refine x_callVv (pc := 1) (n := 0) K (c_X1_looks l D cI cJ cZ cA V cel tint cells near there ways more thrown _ h) rfl rfl gX1_neighbours_X1_looks rfl (by decide +kernel) ⟨Nat.le_of_ble_eq_true rfl, Nat.le_of_ble_eq_true rfl⟩ rfl (av := []) (b := V 0) (ci := 1) (q0 := 0) rfl rfl rfl (Nat.le_of_ble_eq_true rfl) [0, 1, 2, 3, 4, 5, 6] [] (wr := []) rfl rfl rfl rfl (by decide) dX1_neighbours_1 ⟨Nat.le_of_ble_eq_true rfl, Nat.le_of_ble_eq_true rfl⟩ (fun u9 h => ?_)
  obtain ⟨cells_1, near_2, there_3⟩ := u9
  refine x_ws (ws' := (wX1 cI cJ cZ cA V cel tint cells_1 near_2 there_3 ways more thrown)) rfl ?_
  refine x_aload_n (pc := 4) K dX1_neighbours_4 0 rfl rfl ?_
  refine x_iload_n (pc := 5) K dX1_neighbours_5 1 rfl rfl ?_
  refine x_pcallSz (pc := 6) (n := 1) K (c_X1_isCountry l D cI cJ cZ cA p1 _ h) rfl rfl gX1_neighbours_X1_isCountry rfl (by decide +kernel) ⟨Nat.le_of_ble_eq_true rfl, Nat.le_of_ble_eq_true rfl⟩ rfl (av := [.int p1]) rfl (Nat.le_of_ble_eq_true rfl) dX1_neighbours_6 ⟨Nat.le_of_ble_eq_true rfl, Nat.le_of_ble_eq_true rfl⟩ (fun r4 u9 h => ?_)
  refine x_iconst (v := (1)) (pc := 9) K dX1_neighbours_9 (by decide) ?_
  refine x_iconst (v := (1)) (pc := 10) K dX1_neighbours_10 (by decide) ?_
  refine x_callVz (pc := 11) (n := 3) K (c_X1_goes l D cI cJ cZ cA V r4 (1 : Int32) (1 : Int32) cel tint cells_1 near_2 there_3 ways more thrown _ h) rfl rfl gX1_neighbours_X1_goes rfl (by decide +kernel) ⟨Nat.le_of_ble_eq_true rfl, Nat.le_of_ble_eq_true rfl⟩ rfl (av := [.int r4, .int (1 : Int32), .int (1 : Int32)]) (b := V 0) (ci := 1) (q0 := 0) rfl rfl rfl (Nat.le_of_ble_eq_true rfl) [0, 1, 2, 3, 4, 5, 6] [] (wr := []) rfl rfl rfl rfl (by decide) dX1_neighbours_11 ⟨Nat.le_of_ble_eq_true rfl, Nat.le_of_ble_eq_true rfl⟩ (fun r6 thrown_5 h => ?_)
  refine x_ws (ws' := (wX1 cI cJ cZ cA V cel tint cells_1 near_2 there_3 ways more thrown_5)) rfl ?_
  refine x_if_eq (pc := 14) K dX1_neighbours_14 (tgt := 30) (by decide) (fun c9 => ?_) (fun c9 => ?_)
  · have h := h.1 c9
    refine x_keep [false, false] rfl ?_
    refine x_iconst (v := (0)) (pc := 30) K dX1_neighbours_30 (by decide) ?_
    exact hE (0 : Int32) (cells_1, near_2, there_3, thrown_5) _ _ h dX1_neighbours_31
  · have h := h.2 c9
    refine x_aload_n (pc := 17) K dX1_neighbours_17 0 rfl rfl ?_
    refine x_get (pc := 18) (ci := 1) (C := RX1) (T := TX1) (N := 8) K (inX1_neighbours) 0 rfl rfl 3 (by decide) kX1_neighbours_0 rfl rfl dX1_neighbours_18 ?_
    refine x_iload_n (pc := 21) K dX1_neighbours_21 1 rfl rfl ?_
    have g9 := h.1
    replace h := h.2
    refine x_iald (pc := 22) K 4 0 rfl rfl g9 dX1_neighbours_22 ?_
    clear g9
    refine x_i2l (pc := 23) K dX1_neighbours_23 ?_
    refine x_pcallSi (pc := 24) (n := 1) K (c_X1_bits l D cI cJ cZ cA ((near_2 p1.toNatClampNeg).toInt64) _ h) rfl rfl gX1_neighbours_X1_bits rfl (by decide +kernel) ⟨Nat.le_of_ble_eq_true rfl, Nat.le_of_ble_eq_true rfl⟩ rfl (av := [.long ((near_2 p1.toNatClampNeg).toInt64)]) rfl (Nat.le_of_ble_eq_true rfl) dX1_neighbours_24 ⟨Nat.le_of_ble_eq_true rfl, Nat.le_of_ble_eq_true rfl⟩ (fun r7 u9 h => ?_)
    refine x_goto (pc := 27) K dX1_neighbours_27 (tgt := 31) (by decide) ?_
    refine x_keep [false, false] rfl ?_
    exact hE r7 (cells_1, near_2, there_3, thrown_5) _ _ h dX1_neighbours_31
abbrev rm_X1_touches : Room := { frames := 9, cells := 0, slots := 0, locals := 160 }
theorem kX1_touches_0 : Cond.constantLong RX1 37 (-34905131041) ∈ wsX1_touches := by decide +kernel
def q_X1_touches (p0 : Int64) (p2 : Int64) (P : Int32 → Prop) : Prop := q_X1_bits ((xlshl (p0 &&& (-34905131041 : Int64)) (1 : Int32)) &&& p2) (fun (r1 : Int32) => q_X1_bits ((xlshl p0 (6 : Int32)) &&& p2) (fun (r2 : Int32) => P (r1 + r2)))
set_option maxHeartbeats 4000000 in
set_option maxRecDepth 100000 in
theorem c_X1_touches (l : Launch) (D : va_G) (cI cJ cZ cA : ClassId) (p0 : Int64) (p2 : Int64) (P : Int32 → Prop) (h : q_X1_touches p0 p2 P) : xMi l yX1_touches wsX1_touches rm_X1_touches D vwCl (xtys cI cJ cZ cA) [] [.long p0, .long p2] (σ := Unit) (fun _ => []) (fun r _ => P r) := by
  refine xMi_of (cc := cX1_touches) (maxL := 4) (by decide) rfl (Nat.le_of_ble_eq_true rfl) ?_
  intro X K hE
  have K : xk X l rm_X1_touches D vwCl (xtys cI cJ cZ cA) cX1_touches RX1 wsX1_touches 4 := K
  unfold q_X1_touches at h
  refine x_lload_n (pc := 0) K dX1_touches_0 0 rfl rfl ?_
  refine x_ldc2 (pc := 1) (v := (-34905131041)) K kX1_touches_0 dX1_touches_1 ?_
  refine x_land (pc := 4) K dX1_touches_4 ?_
  refine x_iconst (v := (1)) (pc := 5) K dX1_touches_5 (by decide) ?_
  refine x_lshl (pc := 6) K dX1_touches_6 ?_
  refine x_lload_n (pc := 7) K dX1_touches_7 1 rfl rfl ?_
  refine x_land (pc := 8) K dX1_touches_8 ?_
  refine x_pcallSi (pc := 9) (n := 1) K (c_X1_bits l D cI cJ cZ cA ((xlshl (p0 &&& (-34905131041 : Int64)) (1 : Int32)) &&& p2) _ h) rfl rfl gX1_touches_X1_bits rfl (by decide +kernel) ⟨Nat.le_of_ble_eq_true rfl, Nat.le_of_ble_eq_true rfl⟩ rfl (av := [.long ((xlshl (p0 &&& (-34905131041 : Int64)) (1 : Int32)) &&& p2)]) rfl (Nat.le_of_ble_eq_true rfl) dX1_touches_9 ⟨Nat.le_of_ble_eq_true rfl, Nat.le_of_ble_eq_true rfl⟩ (fun r1 u9 h => ?_)
  refine x_lload_n (pc := 12) K dX1_touches_12 0 rfl rfl ?_
  refine x_bipush (v := (6)) (pc := 13) K dX1_touches_13 (by decide) ?_
  refine x_lshl (pc := 15) K dX1_touches_15 ?_
  refine x_lload_n (pc := 16) K dX1_touches_16 1 rfl rfl ?_
  refine x_land (pc := 17) K dX1_touches_17 ?_
  refine x_pcallSi (pc := 18) (n := 1) K (c_X1_bits l D cI cJ cZ cA ((xlshl p0 (6 : Int32)) &&& p2) _ h) rfl rfl gX1_touches_X1_bits rfl (by decide +kernel) ⟨Nat.le_of_ble_eq_true rfl, Nat.le_of_ble_eq_true rfl⟩ rfl (av := [.long ((xlshl p0 (6 : Int32)) &&& p2)]) rfl (Nat.le_of_ble_eq_true rfl) dX1_touches_18 ⟨Nat.le_of_ble_eq_true rfl, Nat.le_of_ble_eq_true rfl⟩ (fun r2 u9 h => ?_)
  refine x_iadd (pc := 21) K dX1_touches_21 ?_
  exact hE (r1 + r2) () _ _ h dX1_touches_22
abbrev rm_X1_border : Room := { frames := 10, cells := 0, slots := 0, locals := 200 }
theorem inX1_border : ∀ w ∈ u_ws RX1 TX1 8, w ∈ wsX1_border := by decide +kernel
theorem kX1_border_0 : Cond.fieldLink RX1 16 "FourTintsModel" "cells" "[J" ∈ wsX1_border := by decide +kernel
def q_X1_border (p1 : Int32) (p2 : Int32) (cel : Nat → Int32) (cells : Nat → Int64) (near : Nat → Int32) (P : Int32 → (Nat → Int64) → (Nat → Int32) → Int32 → Int32 → Prop) : Prop := q_X1_looks cel cells near (fun (cells_1 : Nat → Int64) (near_2 : Nat → Int32) (there_3 : Int32) => q_X1_isCountry p1 (fun (r4 : Int32) => xj1 (fun (v6 : Int32) => q_X1_goes v6 (1 : Int32) (1 : Int32) (fun (r8 : Int32) (thrown_7 : Int32) => ((¬ r8 = (0 : Int32) → ((¬ p1 = p2 → xin p1 10 = true ∧ xin p2 10 = true ∧ q_X1_touches (cells_1 p1.toNatClampNeg) (cells_1 p2.toNatClampNeg) (fun (r9 : Int32) => xin p2 10 = true ∧ xin p1 10 = true ∧ q_X1_touches (cells_1 p2.toNatClampNeg) (cells_1 p1.toNatClampNeg) (fun (r10 : Int32) => P (r9 + r10) cells_1 near_2 there_3 thrown_7))) ∧ (p1 = p2 → P (0 : Int32) cells_1 near_2 there_3 thrown_7))) ∧ (r8 = (0 : Int32) → P (0 : Int32) cells_1 near_2 there_3 thrown_7)))) (fun (J5 : Int32 → Prop) => xj0 (J5 (0 : Int32)) (fun (J11 : Prop) => ((r4 = (0 : Int32) → J11) ∧ (¬ r4 = (0 : Int32) → q_X1_isCountry p2 (fun (r12 : Int32) => ((r12 = (0 : Int32) → J11) ∧ (¬ r12 = (0 : Int32) → J5 (1 : Int32))))))))))
set_option maxHeartbeats 4000000 in
set_option maxRecDepth 100000 in
theorem c_X1_border (l : Launch) (D : va_G) (cI cJ cZ cA : ClassId) (V : Nat → Nat) (p1 : Int32) (p2 : Int32) (cel : Nat → Int32) (tint : Nat → Int32) (cells : Nat → Int64) (near : Nat → Int32) (there : Int32) (ways : Nat → Int64) (more : Nat → Int64) (thrown : Int32) (P : Int32 → (Nat → Int64) → (Nat → Int32) → Int32 → Int32 → Prop) (h : q_X1_border p1 p2 cel cells near P) : xMi l yX1_border wsX1_border rm_X1_border D vwCl (xtys cI cJ cZ cA) (wX1 cI cJ cZ cA V cel tint cells near there ways more thrown) [.ref (V 0), .int p1, .int p2] (σ := (Nat → Int64) × (Nat → Int32) × Int32 × Int32) (fun u => (wX1 cI cJ cZ cA V cel tint u.1 u.2.1 u.2.2.1 ways more u.2.2.2)) (fun r u => P r u.1 u.2.1 u.2.2.1 u.2.2.2) := by
  refine xMi_of (cc := cX1_border) (maxL := 3) (by decide) rfl (Nat.le_of_ble_eq_true rfl) ?_
  intro X K hE
  have K : xk X l rm_X1_border D vwCl (xtys cI cJ cZ cA) cX1_border RX1 wsX1_border 3 := K
  unfold q_X1_border at h
  refine x_aload_n (pc := 0) K dX1_border_0 0 rfl rfl ?_
  refine x_callVv (pc := 1) (n := 0) K (c_X1_looks l D cI cJ cZ cA V cel tint cells near there ways more thrown _ h) rfl rfl gX1_border_X1_looks rfl (by decide +kernel) ⟨Nat.le_of_ble_eq_true rfl, Nat.le_of_ble_eq_true rfl⟩ rfl (av := []) (b := V 0) (ci := 1) (q0 := 0) rfl rfl rfl (Nat.le_of_ble_eq_true rfl) [0, 1, 2, 3, 4, 5, 6] [] (wr := []) rfl rfl rfl rfl (by decide) dX1_border_1 ⟨Nat.le_of_ble_eq_true rfl, Nat.le_of_ble_eq_true rfl⟩ (fun u9 h => ?_)
  obtain ⟨cells_1, near_2, there_3⟩ := u9
  refine x_ws (ws' := (wX1 cI cJ cZ cA V cel tint cells_1 near_2 there_3 ways more thrown)) rfl ?_
  refine x_aload_n (pc := 4) K dX1_border_4 0 rfl rfl ?_
  refine x_iload_n (pc := 5) K dX1_border_5 1 rfl rfl ?_
  refine x_pcallSz (pc := 6) (n := 1) K (c_X1_isCountry l D cI cJ cZ cA p1 _ h) rfl rfl gX1_border_X1_isCountry rfl (by decide +kernel) ⟨Nat.le_of_ble_eq_true rfl, Nat.le_of_ble_eq_true rfl⟩ rfl (av := [.int p1]) rfl (Nat.le_of_ble_eq_true rfl) dX1_border_6 ⟨Nat.le_of_ble_eq_true rfl, Nat.le_of_ble_eq_true rfl⟩ (fun r4 u9 h => ?_)
  obtain ⟨J5, hJ5, h⟩ := xj1_o h
  have kJ5 : ∀ (v6 : Int32), J5 v6 → xw X 0 0 24 [(0, .ref (V 0)), (1, .int p1), (2, .int p2)] [.int v6, .ref (V 0)] (wX1 cI cJ cZ cA V cel tint cells_1 near_2 there_3 ways more thrown) := by
    intro v6 hj
    have h := hJ5 v6 hj
    refine x_iconst (v := (1)) (pc := 24) K dX1_border_24 (by decide) ?_
    refine x_iconst (v := (1)) (pc := 25) K dX1_border_25 (by decide) ?_
    refine x_callVz (pc := 26) (n := 3) K (c_X1_goes l D cI cJ cZ cA V v6 (1 : Int32) (1 : Int32) cel tint cells_1 near_2 there_3 ways more thrown _ h) rfl rfl gX1_border_X1_goes rfl (by decide +kernel) ⟨Nat.le_of_ble_eq_true rfl, Nat.le_of_ble_eq_true rfl⟩ rfl (av := [.int v6, .int (1 : Int32), .int (1 : Int32)]) (b := V 0) (ci := 1) (q0 := 0) rfl rfl rfl (Nat.le_of_ble_eq_true rfl) [0, 1, 2, 3, 4, 5, 6] [] (wr := []) rfl rfl rfl rfl (by decide) dX1_border_26 ⟨Nat.le_of_ble_eq_true rfl, Nat.le_of_ble_eq_true rfl⟩ (fun r8 thrown_7 h => ?_)
    refine x_ws (ws' := (wX1 cI cJ cZ cA V cel tint cells_1 near_2 there_3 ways more thrown_7)) rfl ?_
    refine x_if_ne (pc := 29) K dX1_border_29 (tgt := 34) (by decide) (fun c9 => ?_) (fun c9 => ?_)
    · have h := h.1 c9
      refine x_iload_n (pc := 34) K dX1_border_34 1 rfl rfl ?_
      refine x_iload_n (pc := 35) K dX1_border_35 2 rfl rfl ?_
      refine x_icmp_ne (pc := 36) K dX1_border_36 (tgt := 43) (by decide) (fun c9 => ?_) (fun c9 => ?_)
      · have h := h.1 c9
        refine x_aload_n (pc := 43) K dX1_border_43 0 rfl rfl ?_
        refine x_get (pc := 44) (ci := 1) (C := RX1) (T := TX1) (N := 8) K (inX1_border) 0 rfl rfl 2 (by decide) kX1_border_0 rfl rfl dX1_border_44 ?_
        refine x_iload_n (pc := 47) K dX1_border_47 1 rfl rfl ?_
        have g9 := h.1
        replace h := h.2
        refine x_lald (pc := 48) K 3 1 rfl rfl g9 dX1_border_48 ?_
        clear g9
        refine x_aload_n (pc := 49) K dX1_border_49 0 rfl rfl ?_
        refine x_get (pc := 50) (ci := 1) (C := RX1) (T := TX1) (N := 8) K (inX1_border) 0 rfl rfl 2 (by decide) kX1_border_0 rfl rfl dX1_border_50 ?_
        refine x_iload_n (pc := 53) K dX1_border_53 2 rfl rfl ?_
        have g9 := h.1
        replace h := h.2
        refine x_lald (pc := 54) K 3 1 rfl rfl g9 dX1_border_54 ?_
        clear g9
        refine x_pcallSi (pc := 55) (n := 2) K (c_X1_touches l D cI cJ cZ cA (cells_1 p1.toNatClampNeg) (cells_1 p2.toNatClampNeg) _ h) rfl rfl gX1_border_X1_touches rfl (by decide +kernel) ⟨Nat.le_of_ble_eq_true rfl, Nat.le_of_ble_eq_true rfl⟩ rfl (av := [.long (cells_1 p1.toNatClampNeg), .long (cells_1 p2.toNatClampNeg)]) rfl (Nat.le_of_ble_eq_true rfl) dX1_border_55 ⟨Nat.le_of_ble_eq_true rfl, Nat.le_of_ble_eq_true rfl⟩ (fun r9 u9 h => ?_)
        refine x_aload_n (pc := 58) K dX1_border_58 0 rfl rfl ?_
        refine x_get (pc := 59) (ci := 1) (C := RX1) (T := TX1) (N := 8) K (inX1_border) 0 rfl rfl 2 (by decide) kX1_border_0 rfl rfl dX1_border_59 ?_
        refine x_iload_n (pc := 62) K dX1_border_62 2 rfl rfl ?_
        have g9 := h.1
        replace h := h.2
        refine x_lald (pc := 63) K 3 1 rfl rfl g9 dX1_border_63 ?_
        clear g9
        refine x_aload_n (pc := 64) K dX1_border_64 0 rfl rfl ?_
        refine x_get (pc := 65) (ci := 1) (C := RX1) (T := TX1) (N := 8) K (inX1_border) 0 rfl rfl 2 (by decide) kX1_border_0 rfl rfl dX1_border_65 ?_
        refine x_iload_n (pc := 68) K dX1_border_68 1 rfl rfl ?_
        have g9 := h.1
        replace h := h.2
        refine x_lald (pc := 69) K 3 1 rfl rfl g9 dX1_border_69 ?_
        clear g9
        refine x_pcallSi (pc := 70) (n := 2) K (c_X1_touches l D cI cJ cZ cA (cells_1 p2.toNatClampNeg) (cells_1 p1.toNatClampNeg) _ h) rfl rfl gX1_border_X1_touches rfl (by decide +kernel) ⟨Nat.le_of_ble_eq_true rfl, Nat.le_of_ble_eq_true rfl⟩ rfl (av := [.long (cells_1 p2.toNatClampNeg), .long (cells_1 p1.toNatClampNeg)]) rfl (Nat.le_of_ble_eq_true rfl) dX1_border_70 ⟨Nat.le_of_ble_eq_true rfl, Nat.le_of_ble_eq_true rfl⟩ (fun r10 u9 h => ?_)
        refine x_iadd (pc := 73) K dX1_border_73 ?_
        refine x_keep [false, false, false] rfl ?_
        exact hE (r9 + r10) (cells_1, near_2, there_3, thrown_7) _ _ h dX1_border_74
      · have h := h.2 c9
        refine x_keep [false, false, false] rfl ?_
        refine x_iconst (v := (0)) (pc := 39) K dX1_border_39 (by decide) ?_
        refine x_goto (pc := 40) K dX1_border_40 (tgt := 74) (by decide) ?_
        exact hE (0 : Int32) (cells_1, near_2, there_3, thrown_7) _ _ h dX1_border_74
    · have h := h.2 c9
      refine x_keep [false, false, false] rfl ?_
      refine x_iconst (v := (0)) (pc := 32) K dX1_border_32 (by decide) ?_
      exact hE (0 : Int32) (cells_1, near_2, there_3, thrown_7) _ _ h dX1_border_33
  obtain ⟨J11, hJ11, h⟩ := xj0_o h
  have kJ11 : J11 → xw X 0 0 23 [(0, .ref (V 0)), (1, .int p1), (2, .int p2)] [.ref (V 0)] (wX1 cI cJ cZ cA V cel tint cells_1 near_2 there_3 ways more thrown) := by
    intro  hj
    have h := hJ11  hj
    refine x_iconst (v := (0)) (pc := 23) K dX1_border_23 (by decide) ?_
    exact kJ5 (0 : Int32) h
  refine x_if_eq (pc := 9) K dX1_border_9 (tgt := 23) (by decide) (fun c9 => ?_) (fun c9 => ?_)
  · have h := h.1 c9
    exact kJ11  h
  · have h := h.2 c9
    refine x_iload_n (pc := 12) K dX1_border_12 2 rfl rfl ?_
    refine x_pcallSz (pc := 13) (n := 1) K (c_X1_isCountry l D cI cJ cZ cA p2 _ h) rfl rfl gX1_border_X1_isCountry rfl (by decide +kernel) ⟨Nat.le_of_ble_eq_true rfl, Nat.le_of_ble_eq_true rfl⟩ rfl (av := [.int p2]) rfl (Nat.le_of_ble_eq_true rfl) dX1_border_13 ⟨Nat.le_of_ble_eq_true rfl, Nat.le_of_ble_eq_true rfl⟩ (fun r12 u9 h => ?_)
    refine x_if_eq (pc := 16) K dX1_border_16 (tgt := 23) (by decide) (fun c9 => ?_) (fun c9 => ?_)
    · have h := h.1 c9
      exact kJ11  h
    · have h := h.2 c9
      refine x_iconst (v := (1)) (pc := 19) K dX1_border_19 (by decide) ?_
      refine x_goto (pc := 20) K dX1_border_20 (tgt := 24) (by decide) ?_
      exact kJ5 (1 : Int32) h
abbrev rm_X1_enclosed : Room := { frames := 10, cells := 0, slots := 0, locals := 200 }
theorem inX1_enclosed : ∀ w ∈ u_ws RX1 TX1 8, w ∈ wsX1_enclosed := by decide +kernel
theorem kX1_enclosed_0 : Cond.constantLong RX1 41 (68719476735) ∈ wsX1_enclosed := by decide +kernel
theorem kX1_enclosed_1 : Cond.fieldLink RX1 16 "FourTintsModel" "cells" "[J" ∈ wsX1_enclosed := by decide +kernel
theorem kX1_enclosed_2 : Cond.constantLong RX1 84 (-1) ∈ wsX1_enclosed := by decide +kernel
theorem kX1_enclosed_3 : Cond.constantLong RX1 93 (68208171135) ∈ wsX1_enclosed := by decide +kernel
def q_X1_enclosed (p1 : Int32) (cel : Nat → Int32) (cells : Nat → Int64) (near : Nat → Int32) (P : Int32 → (Nat → Int64) → (Nat → Int32) → Int32 → Int32 → Prop) : Prop := q_X1_looks cel cells near (fun (cells_1 : Nat → Int64) (near_2 : Nat → Int32) (there_3 : Int32) => q_X1_isCountry p1 (fun (r4 : Int32) => q_X1_goes r4 (1 : Int32) (1 : Int32) (fun (r6 : Int32) (thrown_5 : Int32) => ((¬ r6 = (0 : Int32) → xin p1 10 = true ∧ xl ((68719476735 : Int64) &&& ((cells_1 p1.toNatClampNeg) ^^^ (-1 : Int64))) (fun y7 => q_X1_reach (68208171135 : Int64) y7 (fun (r8 : Int64) => q_X1_bits (y7 &&& (r8 ^^^ (-1 : Int64))) (fun (r9 : Int32) => P r9 cells_1 near_2 there_3 thrown_5)))) ∧ (r6 = (0 : Int32) → P (0 : Int32) cells_1 near_2 there_3 thrown_5)))))
set_option maxHeartbeats 4000000 in
set_option maxRecDepth 100000 in
theorem c_X1_enclosed (l : Launch) (D : va_G) (cI cJ cZ cA : ClassId) (V : Nat → Nat) (p1 : Int32) (cel : Nat → Int32) (tint : Nat → Int32) (cells : Nat → Int64) (near : Nat → Int32) (there : Int32) (ways : Nat → Int64) (more : Nat → Int64) (thrown : Int32) (P : Int32 → (Nat → Int64) → (Nat → Int32) → Int32 → Int32 → Prop) (h : q_X1_enclosed p1 cel cells near P) : xMi l yX1_enclosed wsX1_enclosed rm_X1_enclosed D vwCl (xtys cI cJ cZ cA) (wX1 cI cJ cZ cA V cel tint cells near there ways more thrown) [.ref (V 0), .int p1] (σ := (Nat → Int64) × (Nat → Int32) × Int32 × Int32) (fun u => (wX1 cI cJ cZ cA V cel tint u.1 u.2.1 u.2.2.1 ways more u.2.2.2)) (fun r u => P r u.1 u.2.1 u.2.2.1 u.2.2.2) := by
  refine xMi_of (cc := cX1_enclosed) (maxL := 4) (by decide) rfl (Nat.le_of_ble_eq_true rfl) ?_
  intro X K hE
  have K : xk X l rm_X1_enclosed D vwCl (xtys cI cJ cZ cA) cX1_enclosed RX1 wsX1_enclosed 4 := K
  unfold q_X1_enclosed at h
  refine x_aload_n (pc := 0) K dX1_enclosed_0 0 rfl rfl ?_
  refine x_callVv (pc := 1) (n := 0) K (c_X1_looks l D cI cJ cZ cA V cel tint cells near there ways more thrown _ h) rfl rfl gX1_enclosed_X1_looks rfl (by decide +kernel) ⟨Nat.le_of_ble_eq_true rfl, Nat.le_of_ble_eq_true rfl⟩ rfl (av := []) (b := V 0) (ci := 1) (q0 := 0) rfl rfl rfl (Nat.le_of_ble_eq_true rfl) [0, 1, 2, 3, 4, 5, 6] [] (wr := []) rfl rfl rfl rfl (by decide) dX1_enclosed_1 ⟨Nat.le_of_ble_eq_true rfl, Nat.le_of_ble_eq_true rfl⟩ (fun u9 h => ?_)
  obtain ⟨cells_1, near_2, there_3⟩ := u9
  refine x_ws (ws' := (wX1 cI cJ cZ cA V cel tint cells_1 near_2 there_3 ways more thrown)) rfl ?_
  refine x_aload_n (pc := 4) K dX1_enclosed_4 0 rfl rfl ?_
  refine x_iload_n (pc := 5) K dX1_enclosed_5 1 rfl rfl ?_
  refine x_pcallSz (pc := 6) (n := 1) K (c_X1_isCountry l D cI cJ cZ cA p1 _ h) rfl rfl gX1_enclosed_X1_isCountry rfl (by decide +kernel) ⟨Nat.le_of_ble_eq_true rfl, Nat.le_of_ble_eq_true rfl⟩ rfl (av := [.int p1]) rfl (Nat.le_of_ble_eq_true rfl) dX1_enclosed_6 ⟨Nat.le_of_ble_eq_true rfl, Nat.le_of_ble_eq_true rfl⟩ (fun r4 u9 h => ?_)
  refine x_iconst (v := (1)) (pc := 9) K dX1_enclosed_9 (by decide) ?_
  refine x_iconst (v := (1)) (pc := 10) K dX1_enclosed_10 (by decide) ?_
  refine x_callVz (pc := 11) (n := 3) K (c_X1_goes l D cI cJ cZ cA V r4 (1 : Int32) (1 : Int32) cel tint cells_1 near_2 there_3 ways more thrown _ h) rfl rfl gX1_enclosed_X1_goes rfl (by decide +kernel) ⟨Nat.le_of_ble_eq_true rfl, Nat.le_of_ble_eq_true rfl⟩ rfl (av := [.int r4, .int (1 : Int32), .int (1 : Int32)]) (b := V 0) (ci := 1) (q0 := 0) rfl rfl rfl (Nat.le_of_ble_eq_true rfl) [0, 1, 2, 3, 4, 5, 6] [] (wr := []) rfl rfl rfl rfl (by decide) dX1_enclosed_11 ⟨Nat.le_of_ble_eq_true rfl, Nat.le_of_ble_eq_true rfl⟩ (fun r6 thrown_5 h => ?_)
  refine x_ws (ws' := (wX1 cI cJ cZ cA V cel tint cells_1 near_2 there_3 ways more thrown_5)) rfl ?_
  refine x_if_ne (pc := 14) K dX1_enclosed_14 (tgt := 19) (by decide) (fun c9 => ?_) (fun c9 => ?_)
  · have h := h.1 c9
    refine x_ldc2 (pc := 19) (v := (68719476735)) K kX1_enclosed_0 dX1_enclosed_19 ?_
    refine x_aload_n (pc := 22) K dX1_enclosed_22 0 rfl rfl ?_
    refine x_get (pc := 23) (ci := 1) (C := RX1) (T := TX1) (N := 8) K (inX1_enclosed) 0 rfl rfl 2 (by decide) kX1_enclosed_1 rfl rfl dX1_enclosed_23 ?_
    refine x_iload_n (pc := 26) K dX1_enclosed_26 1 rfl rfl ?_
    have g9 := h.1
    replace h := h.2
    refine x_lald (pc := 27) K 3 1 rfl rfl g9 dX1_enclosed_27 ?_
    clear g9
    refine x_ldc2 (pc := 28) (v := (-1)) K kX1_enclosed_2 dX1_enclosed_28 ?_
    refine x_lxor (pc := 31) K dX1_enclosed_31 ?_
    refine x_land (pc := 32) K dX1_enclosed_32 ?_
    obtain ⟨y7, ey7, h⟩ := xl_o h
    refine x_topl ey7 ?_
    clear ey7
    refine x_lstore_n (lv' := [(0, .ref (V 0)), (1, .int p1), (2, .long y7)]) (pc := 33) K dX1_enclosed_33 rfl (by decide) rfl ?_
    refine x_lload_n (pc := 34) K dX1_enclosed_34 2 rfl rfl ?_
    refine x_ldc2 (pc := 35) (v := (68208171135)) K kX1_enclosed_3 dX1_enclosed_35 ?_
    refine x_lload_n (pc := 38) K dX1_enclosed_38 2 rfl rfl ?_
    refine x_pcallSl (pc := 39) (n := 2) K (c_X1_reach l D cI cJ cZ cA (68208171135 : Int64) y7 _ h) rfl rfl gX1_enclosed_X1_reach rfl (by decide +kernel) ⟨Nat.le_of_ble_eq_true rfl, Nat.le_of_ble_eq_true rfl⟩ rfl (av := [.long (68208171135 : Int64), .long y7]) rfl (Nat.le_of_ble_eq_true rfl) dX1_enclosed_39 ⟨Nat.le_of_ble_eq_true rfl, Nat.le_of_ble_eq_true rfl⟩ (fun r8 u9 h => ?_)
    refine x_ldc2 (pc := 42) (v := (-1)) K kX1_enclosed_2 dX1_enclosed_42 ?_
    refine x_lxor (pc := 45) K dX1_enclosed_45 ?_
    refine x_land (pc := 46) K dX1_enclosed_46 ?_
    refine x_pcallSi (pc := 47) (n := 1) K (c_X1_bits l D cI cJ cZ cA (y7 &&& (r8 ^^^ (-1 : Int64))) _ h) rfl rfl gX1_enclosed_X1_bits rfl (by decide +kernel) ⟨Nat.le_of_ble_eq_true rfl, Nat.le_of_ble_eq_true rfl⟩ rfl (av := [.long (y7 &&& (r8 ^^^ (-1 : Int64)))]) rfl (Nat.le_of_ble_eq_true rfl) dX1_enclosed_47 ⟨Nat.le_of_ble_eq_true rfl, Nat.le_of_ble_eq_true rfl⟩ (fun r9 u9 h => ?_)
    exact hE r9 (cells_1, near_2, there_3, thrown_5) _ _ h dX1_enclosed_50
  · have h := h.2 c9
    refine x_keep [false, false] rfl ?_
    refine x_iconst (v := (0)) (pc := 17) K dX1_enclosed_17 (by decide) ?_
    exact hE (0 : Int32) (cells_1, near_2, there_3, thrown_5) _ _ h dX1_enclosed_18
abbrev rm_X1_areNear : Room := { frames := 8, cells := 0, slots := 0, locals := 120 }
theorem inX1_areNear : ∀ w ∈ u_ws RX1 TX1 8, w ∈ wsX1_areNear := by decide +kernel
theorem kX1_areNear_0 : Cond.fieldLink RX1 47 "FourTintsModel" "there" "I" ∈ wsX1_areNear := by decide +kernel
theorem kX1_areNear_1 : Cond.fieldLink RX1 20 "FourTintsModel" "near" "[I" ∈ wsX1_areNear := by decide +kernel
def q_X1_areNear_L20 (u1 : Int32) (u2 : Int32) (near : Nat → Int32) (P0 : Int32 → Prop) : Nat → Int32 → Int32 → Prop
  | 0, _, _ => False
  | n + 1, x3, x4 => (((10 : Int32) ≤ x4 → P0 x3) ∧ (¬ (10 : Int32) ≤ x4 → xl (u1 &&& (((1 : Int32) <<< (x4 &&& 31)) ^^^ (-1 : Int32))) (fun y3 => ((x3 = (0 : Int32) → q_X1_areNear_L20 u1 u2 near P0 n (0 : Int32) (x4 + (1 : Int32))) ∧ (¬ x3 = (0 : Int32) → ((((u1 >>> (x4 &&& 31)) &&& (1 : Int32)) = (0 : Int32) → q_X1_areNear_L20 u1 u2 near P0 n (1 : Int32) (x4 + (1 : Int32))) ∧ (¬ ((u1 >>> (x4 &&& 31)) &&& (1 : Int32)) = (0 : Int32) → xin x4 10 = true ∧ xj1 (fun (v5 : Int32) => ((¬ ((near x4.toNatClampNeg) &&& y3) = v5 → q_X1_areNear_L20 u1 u2 near P0 n (0 : Int32) (x4 + (1 : Int32))) ∧ (((near x4.toNatClampNeg) &&& y3) = v5 → q_X1_areNear_L20 u1 u2 near P0 n (1 : Int32) (x4 + (1 : Int32))))) (fun (J4 : Int32 → Prop) => ((u2 = (0 : Int32) → J4 (0 : Int32)) ∧ (¬ u2 = (0 : Int32) → J4 y3))))))))))
def q_X1_areNear (p1 : Int32) (p2 : Int32) (near : Nat → Int32) (there : Int32) (P : Int32 → Prop) : Prop := xj1 (fun (v2 : Int32) => (∃ n6 : Nat, q_X1_areNear_L20 p1 p2 near (fun (v7 : Int32) => (xbool v7 ∧ P v7)) n6 v2 (0 : Int32))) (fun (J1 : Int32 → Prop) => ((¬ (p1 &&& (there ^^^ (-1 : Int32))) = (0 : Int32) → J1 (0 : Int32)) ∧ ((p1 &&& (there ^^^ (-1 : Int32))) = (0 : Int32) → J1 (1 : Int32))))
set_option maxHeartbeats 4000000 in
set_option maxRecDepth 100000 in
theorem w_X1_areNear_L20 {X : xC} {l : Launch} {D : va_G} {cI cJ cZ cA : ClassId} {V : Nat → Nat} (K : xk X l rm_X1_areNear D vwCl (xtys cI cJ cZ cA) cX1_areNear RX1 wsX1_areNear 6) (u1 : Int32) (u2 : Int32) (cel : Nat → Int32) (tint : Nat → Int32) (cells : Nat → Int64) (near : Nat → Int32) (there : Int32) (ways : Nat → Int64) (more : Nat → Int64) (thrown : Int32) (P0 : Int32 → Prop) : ∀ (n : Nat) (x3 : Int32) (x4 : Int32), q_X1_areNear_L20 u1 u2 near P0 n x3 x4 → (∀ (z0 : Int32), P0 z0 → xw X 0 0 85 [(3, .int z0)] [] (wX1 cI cJ cZ cA V cel tint cells near there ways more thrown)) → xw X 0 0 20 [(0, .ref (V 0)), (1, .int u1), (2, .int u2), (3, .int x3), (4, .int x4)] [] (wX1 cI cJ cZ cA V cel tint cells near there ways more thrown) := by
  intro n
  induction n with
  | zero =>
    intro x3 x4 h
    rw [q_X1_areNear_L20] at h
    exact h.elim
  | succ n ih =>
    intro x3 x4 h k0
    rw [q_X1_areNear_L20] at h
    refine x_iload (pc := 20) K dX1_areNear_20 4 rfl ?_
    refine x_bipush (v := (10)) (pc := 22) K dX1_areNear_22 (by decide) ?_
    refine x_icmp_ge (pc := 24) K dX1_areNear_24 (tgt := 85) (by decide) (fun c9 => ?_) (fun c9 => ?_)
    · have h := h.1 c9
      refine x_keep [false, false, false, true, false] rfl ?_
      exact k0 x3 h
    · have h := h.2 c9
      refine x_iload_n (pc := 27) K dX1_areNear_27 1 rfl rfl ?_
      refine x_iconst (v := (1)) (pc := 28) K dX1_areNear_28 (by decide) ?_
      refine x_iload (pc := 29) K dX1_areNear_29 4 rfl ?_
      refine x_ishl (pc := 31) K dX1_areNear_31 ?_
      refine x_iconst (v := (-1)) (pc := 32) K dX1_areNear_32 (by decide) ?_
      refine x_ixor (pc := 33) K dX1_areNear_33 ?_
      refine x_iand (pc := 34) K dX1_areNear_34 ?_
      obtain ⟨y3, ey3, h⟩ := xl_o h
      refine x_topi ey3 ?_
      clear ey3
      refine x_istore (lv' := [(0, .ref (V 0)), (1, .int u1), (2, .int u2), (3, .int x3), (4, .int x4), (5, .int y3)]) (pc := 35) K dX1_areNear_35 (by decide) rfl ?_
      refine x_iload_n (pc := 37) K dX1_areNear_37 3 rfl rfl ?_
      refine x_if_eq (pc := 38) K dX1_areNear_38 (tgt := 77) (by decide) (fun c9 => ?_) (fun c9 => ?_)
      · have h := h.1 c9
        refine x_keep [true, true, true, false, true, false] rfl ?_
        refine x_iconst (v := (0)) (pc := 77) K dX1_areNear_77 (by decide) ?_
        refine x_istore_n (lv' := [(0, .ref (V 0)), (1, .int u1), (2, .int u2), (3, .int (0 : Int32)), (4, .int x4)]) (pc := 78) K dX1_areNear_78 rfl (by decide) rfl ?_
        refine x_iinc (v := x4 + (1 : Int32)) (lv' := [(0, .ref (V 0)), (1, .int u1), (2, .int u2), (3, .int (0 : Int32)), (4, .int (x4 + (1 : Int32)))]) (pc := 79) K dX1_areNear_79 (k := 4) rfl rfl (by decide) rfl ?_
        refine x_goto (pc := 82) K dX1_areNear_82 (tgt := 20) (by decide) ?_
        exact ih (0 : Int32) (x4 + (1 : Int32)) h k0
      · have h := h.2 c9
        refine x_keep [true, true, true, false, true, true] rfl ?_
        refine x_iload_n (pc := 41) K dX1_areNear_41 1 rfl rfl ?_
        refine x_iload (pc := 42) K dX1_areNear_42 3 rfl ?_
        refine x_ishr (pc := 44) K dX1_areNear_44 ?_
        refine x_iconst (v := (1)) (pc := 45) K dX1_areNear_45 (by decide) ?_
        refine x_iand (pc := 46) K dX1_areNear_46 ?_
        refine x_if_eq (pc := 47) K dX1_areNear_47 (tgt := 73) (by decide) (fun c9 => ?_) (fun c9 => ?_)
        · have h := h.1 c9
          refine x_keep [true, true, true, true, false] rfl ?_
          refine x_iconst (v := (1)) (pc := 73) K dX1_areNear_73 (by decide) ?_
          refine x_goto (pc := 74) K dX1_areNear_74 (tgt := 78) (by decide) ?_
          refine x_istore_n (lv' := [(0, .ref (V 0)), (1, .int u1), (2, .int u2), (3, .int (1 : Int32)), (4, .int x4)]) (pc := 78) K dX1_areNear_78 rfl (by decide) rfl ?_
          refine x_iinc (v := x4 + (1 : Int32)) (lv' := [(0, .ref (V 0)), (1, .int u1), (2, .int u2), (3, .int (1 : Int32)), (4, .int (x4 + (1 : Int32)))]) (pc := 79) K dX1_areNear_79 (k := 4) rfl rfl (by decide) rfl ?_
          refine x_goto (pc := 82) K dX1_areNear_82 (tgt := 20) (by decide) ?_
          exact ih (1 : Int32) (x4 + (1 : Int32)) h k0
        · have h := h.2 c9
          refine x_aload_n (pc := 50) K dX1_areNear_50 0 rfl rfl ?_
          refine x_get (pc := 51) (ci := 1) (C := RX1) (T := TX1) (N := 8) K (inX1_areNear) 0 rfl rfl 3 (by decide) kX1_areNear_1 rfl rfl dX1_areNear_51 ?_
          refine x_iload (pc := 54) K dX1_areNear_54 3 rfl ?_
          have g9 := h.1
          replace h := h.2
          refine x_iald (pc := 56) K 4 0 rfl rfl g9 dX1_areNear_56 ?_
          clear g9
          refine x_iload (pc := 57) K dX1_areNear_57 4 rfl ?_
          refine x_iand (pc := 59) K dX1_areNear_59 ?_
          refine x_iload_n (pc := 60) K dX1_areNear_60 2 rfl rfl ?_
          obtain ⟨J4, hJ4, h⟩ := xj1_o h
          have kJ4 : ∀ (v5 : Int32), J4 v5 → xw X 0 0 70 [(0, .ref (V 0)), (1, .int u1), (2, .int u2), (4, .int x4)] [.int v5, .int ((near x4.toNatClampNeg) &&& y3)] (wX1 cI cJ cZ cA V cel tint cells near there ways more thrown) := by
            intro v5 hj
            have h := hJ4 v5 hj
            refine x_icmp_ne (pc := 70) K dX1_areNear_70 (tgt := 77) (by decide) (fun c9 => ?_) (fun c9 => ?_)
            · have h := h.1 c9
              refine x_iconst (v := (0)) (pc := 77) K dX1_areNear_77 (by decide) ?_
              refine x_istore_n (lv' := [(0, .ref (V 0)), (1, .int u1), (2, .int u2), (3, .int (0 : Int32)), (4, .int x4)]) (pc := 78) K dX1_areNear_78 rfl (by decide) rfl ?_
              refine x_iinc (v := x4 + (1 : Int32)) (lv' := [(0, .ref (V 0)), (1, .int u1), (2, .int u2), (3, .int (0 : Int32)), (4, .int (x4 + (1 : Int32)))]) (pc := 79) K dX1_areNear_79 (k := 4) rfl rfl (by decide) rfl ?_
              refine x_goto (pc := 82) K dX1_areNear_82 (tgt := 20) (by decide) ?_
              exact ih (0 : Int32) (x4 + (1 : Int32)) h k0
            · have h := h.2 c9
              refine x_iconst (v := (1)) (pc := 73) K dX1_areNear_73 (by decide) ?_
              refine x_goto (pc := 74) K dX1_areNear_74 (tgt := 78) (by decide) ?_
              refine x_istore_n (lv' := [(0, .ref (V 0)), (1, .int u1), (2, .int u2), (3, .int (1 : Int32)), (4, .int x4)]) (pc := 78) K dX1_areNear_78 rfl (by decide) rfl ?_
              refine x_iinc (v := x4 + (1 : Int32)) (lv' := [(0, .ref (V 0)), (1, .int u1), (2, .int u2), (3, .int (1 : Int32)), (4, .int (x4 + (1 : Int32)))]) (pc := 79) K dX1_areNear_79 (k := 4) rfl rfl (by decide) rfl ?_
              refine x_goto (pc := 82) K dX1_areNear_82 (tgt := 20) (by decide) ?_
              exact ih (1 : Int32) (x4 + (1 : Int32)) h k0
          refine x_if_eq (pc := 61) K dX1_areNear_61 (tgt := 69) (by decide) (fun c9 => ?_) (fun c9 => ?_)
          · have h := h.1 c9
            refine x_keep [true, true, true, true, false] rfl ?_
            refine x_iconst (v := (0)) (pc := 69) K dX1_areNear_69 (by decide) ?_
            exact kJ4 (0 : Int32) h
          · have h := h.2 c9
            refine x_iload (pc := 64) K dX1_areNear_64 4 rfl ?_
            refine x_goto (pc := 66) K dX1_areNear_66 (tgt := 70) (by decide) ?_
            refine x_keep [true, true, true, true, false] rfl ?_
            exact kJ4 y3 h
set_option maxHeartbeats 4000000 in
set_option maxRecDepth 100000 in
theorem c_X1_areNear (l : Launch) (D : va_G) (cI cJ cZ cA : ClassId) (V : Nat → Nat) (p1 : Int32) (p2 : Int32) (cel : Nat → Int32) (tint : Nat → Int32) (cells : Nat → Int64) (near : Nat → Int32) (there : Int32) (ways : Nat → Int64) (more : Nat → Int64) (thrown : Int32) (P : Int32 → Prop) (h : q_X1_areNear p1 p2 near there P) : xMz l yX1_areNear wsX1_areNear rm_X1_areNear D vwCl (xtys cI cJ cZ cA) (wX1 cI cJ cZ cA V cel tint cells near there ways more thrown) [.ref (V 0), .int p1, .int p2] (σ := Unit) (fun _ => (wX1 cI cJ cZ cA V cel tint cells near there ways more thrown)) (fun r _ => P r) := by
  refine xMz_of (cc := cX1_areNear) (maxL := 6) (by decide) rfl (Nat.le_of_ble_eq_true rfl) ?_
  intro X K hE
  have K : xk X l rm_X1_areNear D vwCl (xtys cI cJ cZ cA) cX1_areNear RX1 wsX1_areNear 6 := K
  unfold q_X1_areNear at h
  refine x_iload_n (pc := 0) K dX1_areNear_0 1 rfl rfl ?_
  refine x_aload_n (pc := 1) K dX1_areNear_1 0 rfl rfl ?_
  refine x_get (pc := 2) (ci := 1) (C := RX1) (T := TX1) (N := 8) K (inX1_areNear) 0 rfl rfl 4 (by decide) kX1_areNear_0 rfl rfl dX1_areNear_2 ?_
  refine x_iconst (v := (-1)) (pc := 5) K dX1_areNear_5 (by decide) ?_
  refine x_ixor (pc := 6) K dX1_areNear_6 ?_
  refine x_iand (pc := 7) K dX1_areNear_7 ?_
  obtain ⟨J1, hJ1, h⟩ := xj1_o h
  have kJ1 : ∀ (v2 : Int32), J1 v2 → xw X 0 0 16 [(0, .ref (V 0)), (1, .int p1), (2, .int p2)] [.int v2] (wX1 cI cJ cZ cA V cel tint cells near there ways more thrown) := by
    intro v2 hj
    have h := hJ1 v2 hj
    refine x_istore_n (lv' := [(0, .ref (V 0)), (1, .int p1), (2, .int p2), (3, .int v2)]) (pc := 16) K dX1_areNear_16 rfl (by decide) rfl ?_
    refine x_iconst (v := (0)) (pc := 17) K dX1_areNear_17 (by decide) ?_
    refine x_istore (lv' := [(0, .ref (V 0)), (1, .int p1), (2, .int p2), (3, .int v2), (4, .int (0 : Int32))]) (pc := 18) K dX1_areNear_18 (by decide) rfl ?_
    obtain ⟨n6, h⟩ := h
    refine w_X1_areNear_L20 K p1 p2 cel tint cells near there ways more thrown _ n6 v2 (0 : Int32) h (fun v7 h => ?_)
    refine x_iload_n (pc := 85) K dX1_areNear_85 0 rfl rfl ?_
    exact hE v7 () _ _ h.2 h.1 dX1_areNear_86
  refine x_if_ne (pc := 8) K dX1_areNear_8 (tgt := 15) (by decide) (fun c9 => ?_) (fun c9 => ?_)
  · have h := h.1 c9
    refine x_iconst (v := (0)) (pc := 15) K dX1_areNear_15 (by decide) ?_
    exact kJ1 (0 : Int32) h
  · have h := h.2 c9
    refine x_iconst (v := (1)) (pc := 11) K dX1_areNear_11 (by decide) ?_
    refine x_goto (pc := 12) K dX1_areNear_12 (tgt := 16) (by decide) ?_
    exact kJ1 (1 : Int32) h
abbrev rm_X1_allNeighbours : Room := { frames := 10, cells := 0, slots := 0, locals := 200 }
theorem inX1_allNeighbours : ∀ w ∈ u_ws RX1 TX1 8, w ∈ wsX1_allNeighbours := by decide +kernel
theorem kX1_allNeighbours_0 : Cond.fieldLink RX1 29 "FourTintsModel" "thrown" "I" ∈ wsX1_allNeighbours := by decide +kernel
def q_X1_allNeighbours_L13 (near : Nat → Int32) (there : Int32) (P0 : Int32 → Prop) : Nat → Int32 → Int32 → Prop
  | 0, _, _ => False
  | n + 1, x1, x2 => (((1024 : Int32) ≤ x2 → P0 x1) ∧ (¬ (1024 : Int32) ≤ x2 → q_X1_bits x2.toInt64 (fun (r4 : Int32) => ((r4 ≤ x1 → q_X1_allNeighbours_L13 near there P0 n x1 (x2 + (1 : Int32))) ∧ (¬ r4 ≤ x1 → q_X1_areNear x2 (1 : Int32) near there (fun (r5 : Int32) => ((r5 = (0 : Int32) → q_X1_allNeighbours_L13 near there P0 n x1 (x2 + (1 : Int32))) ∧ (¬ r5 = (0 : Int32) → q_X1_bits x2.toInt64 (fun (r6 : Int32) => q_X1_allNeighbours_L13 near there P0 n r6 (x2 + (1 : Int32)))))))))))
def q_X1_allNeighbours (cel : Nat → Int32) (cells : Nat → Int64) (near : Nat → Int32) (P : Int32 → (Nat → Int64) → (Nat → Int32) → Int32 → Int32 → Prop) : Prop := q_X1_looks cel cells near (fun (cells_1 : Nat → Int64) (near_2 : Nat → Int32) (there_3 : Int32) => (∃ n7 : Nat, q_X1_allNeighbours_L13 near_2 there_3 (fun (v8 : Int32) => P v8 cells_1 near_2 there_3 (0 : Int32)) n7 (0 : Int32) (0 : Int32)))
set_option maxHeartbeats 4000000 in
set_option maxRecDepth 100000 in
theorem w_X1_allNeighbours_L13 {X : xC} {l : Launch} {D : va_G} {cI cJ cZ cA : ClassId} {V : Nat → Nat} (K : xk X l rm_X1_allNeighbours D vwCl (xtys cI cJ cZ cA) cX1_allNeighbours RX1 wsX1_allNeighbours 3) (cel : Nat → Int32) (tint : Nat → Int32) (cells : Nat → Int64) (near : Nat → Int32) (there : Int32) (ways : Nat → Int64) (more : Nat → Int64) (thrown : Int32) (P0 : Int32 → Prop) : ∀ (n : Nat) (x1 : Int32) (x2 : Int32), q_X1_allNeighbours_L13 near there P0 n x1 x2 → (∀ (z0 : Int32), P0 z0 → xw X 0 0 54 [(1, .int z0)] [] (wX1 cI cJ cZ cA V cel tint cells near there ways more thrown)) → xw X 0 0 13 [(0, .ref (V 0)), (1, .int x1), (2, .int x2)] [] (wX1 cI cJ cZ cA V cel tint cells near there ways more thrown) := by
  intro n
  induction n with
  | zero =>
    intro x1 x2 h
    rw [q_X1_allNeighbours_L13] at h
    exact h.elim
  | succ n ih =>
    intro x1 x2 h k0
    rw [q_X1_allNeighbours_L13] at h
    refine x_iload_n (pc := 13) K dX1_allNeighbours_13 2 rfl rfl ?_
    refine x_sipush (v := (1024)) (pc := 14) K dX1_allNeighbours_14 (by decide) ?_
    refine x_icmp_ge (pc := 17) K dX1_allNeighbours_17 (tgt := 54) (by decide) (fun c9 => ?_) (fun c9 => ?_)
    · have h := h.1 c9
      refine x_keep [false, true, false] rfl ?_
      exact k0 x1 h
    · have h := h.2 c9
      refine x_iload_n (pc := 20) K dX1_allNeighbours_20 2 rfl rfl ?_
      refine x_i2l (pc := 21) K dX1_allNeighbours_21 ?_
      refine x_pcallSi (pc := 22) (n := 1) K (c_X1_bits l D cI cJ cZ cA x2.toInt64 _ h) rfl rfl gX1_allNeighbours_X1_bits rfl (by decide +kernel) ⟨Nat.le_of_ble_eq_true rfl, Nat.le_of_ble_eq_true rfl⟩ rfl (av := [.long x2.toInt64]) rfl (Nat.le_of_ble_eq_true rfl) dX1_allNeighbours_22 ⟨Nat.le_of_ble_eq_true rfl, Nat.le_of_ble_eq_true rfl⟩ (fun r4 u9 h => ?_)
      refine x_iload_n (pc := 25) K dX1_allNeighbours_25 1 rfl rfl ?_
      refine x_icmp_le (pc := 26) K dX1_allNeighbours_26 (tgt := 46) (by decide) (fun c9 => ?_) (fun c9 => ?_)
      · have h := h.1 c9
        refine x_iload_n (pc := 46) K dX1_allNeighbours_46 1 rfl rfl ?_
        refine x_keep [true, false, true] rfl ?_
        refine x_istore_n (lv' := [(0, .ref (V 0)), (1, .int x1), (2, .int x2)]) (pc := 47) K dX1_allNeighbours_47 rfl (by decide) rfl ?_
        refine x_iinc (v := x2 + (1 : Int32)) (lv' := [(0, .ref (V 0)), (1, .int x1), (2, .int (x2 + (1 : Int32)))]) (pc := 48) K dX1_allNeighbours_48 (k := 2) rfl rfl (by decide) rfl ?_
        refine x_goto (pc := 51) K dX1_allNeighbours_51 (tgt := 13) (by decide) ?_
        exact ih x1 (x2 + (1 : Int32)) h k0
      · have h := h.2 c9
        refine x_aload_n (pc := 29) K dX1_allNeighbours_29 0 rfl rfl ?_
        refine x_iload_n (pc := 30) K dX1_allNeighbours_30 2 rfl rfl ?_
        refine x_iconst (v := (1)) (pc := 31) K dX1_allNeighbours_31 (by decide) ?_
        refine x_callVz (pc := 32) (n := 2) K (c_X1_areNear l D cI cJ cZ cA V x2 (1 : Int32) cel tint cells near there ways more thrown _ h) rfl rfl gX1_allNeighbours_X1_areNear rfl (by decide +kernel) ⟨Nat.le_of_ble_eq_true rfl, Nat.le_of_ble_eq_true rfl⟩ rfl (av := [.int x2, .int (1 : Int32)]) (b := V 0) (ci := 1) (q0 := 0) rfl rfl rfl (Nat.le_of_ble_eq_true rfl) [0, 1, 2, 3, 4, 5, 6] [] (wr := []) rfl rfl rfl rfl (by decide) dX1_allNeighbours_32 ⟨Nat.le_of_ble_eq_true rfl, Nat.le_of_ble_eq_true rfl⟩ (fun r5 u9 h => ?_)
        refine x_ws (ws' := (wX1 cI cJ cZ cA V cel tint cells near there ways more thrown)) rfl ?_
        refine x_if_eq (pc := 35) K dX1_allNeighbours_35 (tgt := 46) (by decide) (fun c9 => ?_) (fun c9 => ?_)
        · have h := h.1 c9
          refine x_iload_n (pc := 46) K dX1_allNeighbours_46 1 rfl rfl ?_
          refine x_keep [true, false, true] rfl ?_
          refine x_istore_n (lv' := [(0, .ref (V 0)), (1, .int x1), (2, .int x2)]) (pc := 47) K dX1_allNeighbours_47 rfl (by decide) rfl ?_
          refine x_iinc (v := x2 + (1 : Int32)) (lv' := [(0, .ref (V 0)), (1, .int x1), (2, .int (x2 + (1 : Int32)))]) (pc := 48) K dX1_allNeighbours_48 (k := 2) rfl rfl (by decide) rfl ?_
          refine x_goto (pc := 51) K dX1_allNeighbours_51 (tgt := 13) (by decide) ?_
          exact ih x1 (x2 + (1 : Int32)) h k0
        · have h := h.2 c9
          refine x_keep [true, false, true] rfl ?_
          refine x_iload_n (pc := 38) K dX1_allNeighbours_38 1 rfl rfl ?_
          refine x_i2l (pc := 39) K dX1_allNeighbours_39 ?_
          refine x_pcallSi (pc := 40) (n := 1) K (c_X1_bits l D cI cJ cZ cA x2.toInt64 _ h) rfl rfl gX1_allNeighbours_X1_bits rfl (by decide +kernel) ⟨Nat.le_of_ble_eq_true rfl, Nat.le_of_ble_eq_true rfl⟩ rfl (av := [.long x2.toInt64]) rfl (Nat.le_of_ble_eq_true rfl) dX1_allNeighbours_40 ⟨Nat.le_of_ble_eq_true rfl, Nat.le_of_ble_eq_true rfl⟩ (fun r6 u9 h => ?_)
          refine x_goto (pc := 43) K dX1_allNeighbours_43 (tgt := 47) (by decide) ?_
          refine x_istore_n (lv' := [(0, .ref (V 0)), (1, .int r6), (2, .int x2)]) (pc := 47) K dX1_allNeighbours_47 rfl (by decide) rfl ?_
          refine x_iinc (v := x2 + (1 : Int32)) (lv' := [(0, .ref (V 0)), (1, .int r6), (2, .int (x2 + (1 : Int32)))]) (pc := 48) K dX1_allNeighbours_48 (k := 2) rfl rfl (by decide) rfl ?_
          refine x_goto (pc := 51) K dX1_allNeighbours_51 (tgt := 13) (by decide) ?_
          exact ih r6 (x2 + (1 : Int32)) h k0
set_option maxHeartbeats 4000000 in
set_option maxRecDepth 100000 in
theorem c_X1_allNeighbours (l : Launch) (D : va_G) (cI cJ cZ cA : ClassId) (V : Nat → Nat) (cel : Nat → Int32) (tint : Nat → Int32) (cells : Nat → Int64) (near : Nat → Int32) (there : Int32) (ways : Nat → Int64) (more : Nat → Int64) (thrown : Int32) (P : Int32 → (Nat → Int64) → (Nat → Int32) → Int32 → Int32 → Prop) (h : q_X1_allNeighbours cel cells near P) : xMi l yX1_allNeighbours wsX1_allNeighbours rm_X1_allNeighbours D vwCl (xtys cI cJ cZ cA) (wX1 cI cJ cZ cA V cel tint cells near there ways more thrown) [.ref (V 0)] (σ := (Nat → Int64) × (Nat → Int32) × Int32 × Int32) (fun u => (wX1 cI cJ cZ cA V cel tint u.1 u.2.1 u.2.2.1 ways more u.2.2.2)) (fun r u => P r u.1 u.2.1 u.2.2.1 u.2.2.2) := by
  refine xMi_of (cc := cX1_allNeighbours) (maxL := 3) (by decide) rfl (Nat.le_of_ble_eq_true rfl) ?_
  intro X K hE
  have K : xk X l rm_X1_allNeighbours D vwCl (xtys cI cJ cZ cA) cX1_allNeighbours RX1 wsX1_allNeighbours 3 := K
  unfold q_X1_allNeighbours at h
  refine x_aload_n (pc := 0) K dX1_allNeighbours_0 0 rfl rfl ?_
  refine x_callVv (pc := 1) (n := 0) K (c_X1_looks l D cI cJ cZ cA V cel tint cells near there ways more thrown _ h) rfl rfl gX1_allNeighbours_X1_looks rfl (by decide +kernel) ⟨Nat.le_of_ble_eq_true rfl, Nat.le_of_ble_eq_true rfl⟩ rfl (av := []) (b := V 0) (ci := 1) (q0 := 0) rfl rfl rfl (Nat.le_of_ble_eq_true rfl) [0, 1, 2, 3, 4, 5, 6] [] (wr := []) rfl rfl rfl rfl (by decide) dX1_allNeighbours_1 ⟨Nat.le_of_ble_eq_true rfl, Nat.le_of_ble_eq_true rfl⟩ (fun u9 h => ?_)
  obtain ⟨cells_1, near_2, there_3⟩ := u9
  refine x_ws (ws' := (wX1 cI cJ cZ cA V cel tint cells_1 near_2 there_3 ways more thrown)) rfl ?_
  refine x_aload_n (pc := 4) K dX1_allNeighbours_4 0 rfl rfl ?_
  refine x_iconst (v := (0)) (pc := 5) K dX1_allNeighbours_5 (by decide) ?_
  refine x_put (ws' := (wX1 cI cJ cZ cA V cel tint cells_1 near_2 there_3 ways more (0 : Int32))) (pc := 6) (ci := 1) (C := RX1) (T := TX1) (N := 8) (ty := .int) K (inX1_allNeighbours) tyX1 tyX1_ok nmX1 0 rfl rfl 7 (by decide) kX1_allNeighbours_0 rfl rfl rfl rfl rfl (Nat.le_of_ble_eq_true rfl) rfl dX1_allNeighbours_6 ?_
  refine x_iconst (v := (0)) (pc := 9) K dX1_allNeighbours_9 (by decide) ?_
  refine x_istore_n (lv' := [(0, .ref (V 0)), (1, .int (0 : Int32))]) (pc := 10) K dX1_allNeighbours_10 rfl (by decide) rfl ?_
  refine x_iconst (v := (0)) (pc := 11) K dX1_allNeighbours_11 (by decide) ?_
  refine x_istore_n (lv' := [(0, .ref (V 0)), (1, .int (0 : Int32)), (2, .int (0 : Int32))]) (pc := 12) K dX1_allNeighbours_12 rfl (by decide) rfl ?_
  obtain ⟨n7, h⟩ := h
  refine w_X1_allNeighbours_L13 K cel tint cells_1 near_2 there_3 ways more (0 : Int32) _ n7 (0 : Int32) (0 : Int32) h (fun v8 h => ?_)
  refine x_iload_n (pc := 54) K dX1_allNeighbours_54 0 rfl rfl ?_
  exact hE v8 (cells_1, near_2, there_3, (0 : Int32)) _ _ h dX1_allNeighbours_55
abbrev rm_X1_tint : Room := { frames := 10, cells := 0, slots := 0, locals := 200 }
theorem inX1_tint : ∀ w ∈ u_ws RX1 TX1 8, w ∈ wsX1_tint := by decide +kernel
theorem kX1_tint_0 : Cond.fieldLink RX1 13 "FourTintsModel" "tint" "[I" ∈ wsX1_tint := by decide +kernel
def q_X1_tint (p1 : Int32) (p2 : Int32) (tint : Nat → Int32) (P : Int32 → (Nat → Int32) → Int32 → Prop) : Prop := q_X1_isCountry p1 (fun (r1 : Int32) => q_X1_in p2 (0 : Int32) (10 : Int32) (fun (r2 : Int32) => q_X1_goes r1 r2 (1 : Int32) (fun (r4 : Int32) (thrown_3 : Int32) => ((¬ r4 = (0 : Int32) → xin p1 10 = true ∧ xl (tint p1.toNatClampNeg) (fun y5 => xin p1 10 = true ∧ P y5 (upd tint p1.toNatClampNeg p2) thrown_3)) ∧ (r4 = (0 : Int32) → P (0 : Int32) tint thrown_3)))))
set_option maxHeartbeats 4000000 in
set_option maxRecDepth 100000 in
theorem c_X1_tint (l : Launch) (D : va_G) (cI cJ cZ cA : ClassId) (V : Nat → Nat) (p1 : Int32) (p2 : Int32) (cel : Nat → Int32) (tint : Nat → Int32) (cells : Nat → Int64) (near : Nat → Int32) (there : Int32) (ways : Nat → Int64) (more : Nat → Int64) (thrown : Int32) (P : Int32 → (Nat → Int32) → Int32 → Prop) (h : q_X1_tint p1 p2 tint P) : xMi l yX1_tint wsX1_tint rm_X1_tint D vwCl (xtys cI cJ cZ cA) (wX1 cI cJ cZ cA V cel tint cells near there ways more thrown) [.ref (V 0), .int p1, .int p2] (σ := (Nat → Int32) × Int32) (fun u => (wX1 cI cJ cZ cA V cel u.1 cells near there ways more u.2)) (fun r u => P r u.1 u.2) := by
  refine xMi_of (cc := cX1_tint) (maxL := 4) (by decide) rfl (Nat.le_of_ble_eq_true rfl) ?_
  intro X K hE
  have K : xk X l rm_X1_tint D vwCl (xtys cI cJ cZ cA) cX1_tint RX1 wsX1_tint 4 := K
  unfold q_X1_tint at h
  refine x_aload_n (pc := 0) K dX1_tint_0 0 rfl rfl ?_
  refine x_iload_n (pc := 1) K dX1_tint_1 1 rfl rfl ?_
  refine x_pcallSz (pc := 2) (n := 1) K (c_X1_isCountry l D cI cJ cZ cA p1 _ h) rfl rfl gX1_tint_X1_isCountry rfl (by decide +kernel) ⟨Nat.le_of_ble_eq_true rfl, Nat.le_of_ble_eq_true rfl⟩ rfl (av := [.int p1]) rfl (Nat.le_of_ble_eq_true rfl) dX1_tint_2 ⟨Nat.le_of_ble_eq_true rfl, Nat.le_of_ble_eq_true rfl⟩ (fun r1 u9 h => ?_)
  refine x_iload_n (pc := 5) K dX1_tint_5 2 rfl rfl ?_
  refine x_iconst (v := (0)) (pc := 6) K dX1_tint_6 (by decide) ?_
  refine x_bipush (v := (10)) (pc := 7) K dX1_tint_7 (by decide) ?_
  refine x_pcallSz (pc := 9) (n := 3) K (c_X1_in l D cI cJ cZ cA p2 (0 : Int32) (10 : Int32) _ h) rfl rfl gX1_tint_X1_in rfl (by decide +kernel) ⟨Nat.le_of_ble_eq_true rfl, Nat.le_of_ble_eq_true rfl⟩ rfl (av := [.int p2, .int (0 : Int32), .int (10 : Int32)]) rfl (Nat.le_of_ble_eq_true rfl) dX1_tint_9 ⟨Nat.le_of_ble_eq_true rfl, Nat.le_of_ble_eq_true rfl⟩ (fun r2 u9 h => ?_)
  refine x_iconst (v := (1)) (pc := 12) K dX1_tint_12 (by decide) ?_
  refine x_callVz (pc := 13) (n := 3) K (c_X1_goes l D cI cJ cZ cA V r1 r2 (1 : Int32) cel tint cells near there ways more thrown _ h) rfl rfl gX1_tint_X1_goes rfl (by decide +kernel) ⟨Nat.le_of_ble_eq_true rfl, Nat.le_of_ble_eq_true rfl⟩ rfl (av := [.int r1, .int r2, .int (1 : Int32)]) (b := V 0) (ci := 1) (q0 := 0) rfl rfl rfl (Nat.le_of_ble_eq_true rfl) [0, 1, 2, 3, 4, 5, 6] [] (wr := []) rfl rfl rfl rfl (by decide) dX1_tint_13 ⟨Nat.le_of_ble_eq_true rfl, Nat.le_of_ble_eq_true rfl⟩ (fun r4 thrown_3 h => ?_)
  refine x_ws (ws' := (wX1 cI cJ cZ cA V cel tint cells near there ways more thrown_3)) rfl ?_
  refine x_if_ne (pc := 16) K dX1_tint_16 (tgt := 21) (by decide) (fun c9 => ?_) (fun c9 => ?_)
  · have h := h.1 c9
    refine x_aload_n (pc := 21) K dX1_tint_21 0 rfl rfl ?_
    refine x_get (pc := 22) (ci := 1) (C := RX1) (T := TX1) (N := 8) K (inX1_tint) 0 rfl rfl 1 (by decide) kX1_tint_0 rfl rfl dX1_tint_22 ?_
    refine x_iload_n (pc := 25) K dX1_tint_25 1 rfl rfl ?_
    have g9 := h.1
    replace h := h.2
    refine x_iald (pc := 26) K 2 0 rfl rfl g9 dX1_tint_26 ?_
    clear g9
    obtain ⟨y5, ey5, h⟩ := xl_o h
    refine x_topi ey5 ?_
    clear ey5
    refine x_istore_n (lv' := [(0, .ref (V 0)), (1, .int p1), (2, .int p2), (3, .int y5)]) (pc := 27) K dX1_tint_27 rfl (by decide) rfl ?_
    refine x_aload_n (pc := 28) K dX1_tint_28 0 rfl rfl ?_
    refine x_get (pc := 29) (ci := 1) (C := RX1) (T := TX1) (N := 8) K (inX1_tint) 0 rfl rfl 1 (by decide) kX1_tint_0 rfl rfl dX1_tint_29 ?_
    refine x_iload_n (pc := 32) K dX1_tint_32 1 rfl rfl ?_
    refine x_iload_n (pc := 33) K dX1_tint_33 2 rfl rfl ?_
    have g9 := h.1
    replace h := h.2
    refine x_iast (ws' := (wX1 cI cJ cZ cA V cel (upd tint p1.toNatClampNeg p2) cells near there ways more thrown_3)) (pc := 34) K 2 0 rfl rfl rfl g9 dX1_tint_34 ?_
    clear g9
    refine x_iload_n (pc := 35) K dX1_tint_35 3 rfl rfl ?_
    exact hE y5 ((upd tint p1.toNatClampNeg p2), thrown_3) _ _ h dX1_tint_36
  · have h := h.2 c9
    refine x_keep [false, false, false] rfl ?_
    refine x_iconst (v := (0)) (pc := 19) K dX1_tint_19 (by decide) ?_
    exact hE (0 : Int32) (tint, thrown_3) _ _ h dX1_tint_20
abbrev rm_X1_tintOf : Room := { frames := 10, cells := 0, slots := 0, locals := 200 }
theorem inX1_tintOf : ∀ w ∈ u_ws RX1 TX1 8, w ∈ wsX1_tintOf := by decide +kernel
theorem kX1_tintOf_0 : Cond.fieldLink RX1 13 "FourTintsModel" "tint" "[I" ∈ wsX1_tintOf := by decide +kernel
def q_X1_tintOf (p1 : Int32) (tint : Nat → Int32) (P : Int32 → Int32 → Prop) : Prop := q_X1_isCountry p1 (fun (r1 : Int32) => q_X1_goes r1 (1 : Int32) (1 : Int32) (fun (r3 : Int32) (thrown_2 : Int32) => ((r3 = (0 : Int32) → P (0 : Int32) thrown_2) ∧ (¬ r3 = (0 : Int32) → xin p1 10 = true ∧ P (tint p1.toNatClampNeg) thrown_2))))
set_option maxHeartbeats 4000000 in
set_option maxRecDepth 100000 in
theorem c_X1_tintOf (l : Launch) (D : va_G) (cI cJ cZ cA : ClassId) (V : Nat → Nat) (p1 : Int32) (cel : Nat → Int32) (tint : Nat → Int32) (cells : Nat → Int64) (near : Nat → Int32) (there : Int32) (ways : Nat → Int64) (more : Nat → Int64) (thrown : Int32) (P : Int32 → Int32 → Prop) (h : q_X1_tintOf p1 tint P) : xMi l yX1_tintOf wsX1_tintOf rm_X1_tintOf D vwCl (xtys cI cJ cZ cA) (wX1 cI cJ cZ cA V cel tint cells near there ways more thrown) [.ref (V 0), .int p1] (σ := Int32) (fun u => (wX1 cI cJ cZ cA V cel tint cells near there ways more u)) (fun r u => P r u) := by
  refine xMi_of (cc := cX1_tintOf) (maxL := 2) (by decide) rfl (Nat.le_of_ble_eq_true rfl) ?_
  intro X K hE
  have K : xk X l rm_X1_tintOf D vwCl (xtys cI cJ cZ cA) cX1_tintOf RX1 wsX1_tintOf 2 := K
  unfold q_X1_tintOf at h
  refine x_aload_n (pc := 0) K dX1_tintOf_0 0 rfl rfl ?_
  refine x_iload_n (pc := 1) K dX1_tintOf_1 1 rfl rfl ?_
  refine x_pcallSz (pc := 2) (n := 1) K (c_X1_isCountry l D cI cJ cZ cA p1 _ h) rfl rfl gX1_tintOf_X1_isCountry rfl (by decide +kernel) ⟨Nat.le_of_ble_eq_true rfl, Nat.le_of_ble_eq_true rfl⟩ rfl (av := [.int p1]) rfl (Nat.le_of_ble_eq_true rfl) dX1_tintOf_2 ⟨Nat.le_of_ble_eq_true rfl, Nat.le_of_ble_eq_true rfl⟩ (fun r1 u9 h => ?_)
  refine x_iconst (v := (1)) (pc := 5) K dX1_tintOf_5 (by decide) ?_
  refine x_iconst (v := (1)) (pc := 6) K dX1_tintOf_6 (by decide) ?_
  refine x_callVz (pc := 7) (n := 3) K (c_X1_goes l D cI cJ cZ cA V r1 (1 : Int32) (1 : Int32) cel tint cells near there ways more thrown _ h) rfl rfl gX1_tintOf_X1_goes rfl (by decide +kernel) ⟨Nat.le_of_ble_eq_true rfl, Nat.le_of_ble_eq_true rfl⟩ rfl (av := [.int r1, .int (1 : Int32), .int (1 : Int32)]) (b := V 0) (ci := 1) (q0 := 0) rfl rfl rfl (Nat.le_of_ble_eq_true rfl) [0, 1, 2, 3, 4, 5, 6] [] (wr := []) rfl rfl rfl rfl (by decide) dX1_tintOf_7 ⟨Nat.le_of_ble_eq_true rfl, Nat.le_of_ble_eq_true rfl⟩ (fun r3 thrown_2 h => ?_)
  refine x_ws (ws' := (wX1 cI cJ cZ cA V cel tint cells near there ways more thrown_2)) rfl ?_
  refine x_if_eq (pc := 10) K dX1_tintOf_10 (tgt := 22) (by decide) (fun c9 => ?_) (fun c9 => ?_)
  · have h := h.1 c9
    refine x_keep [false, false] rfl ?_
    refine x_iconst (v := (0)) (pc := 22) K dX1_tintOf_22 (by decide) ?_
    exact hE (0 : Int32) thrown_2 _ _ h dX1_tintOf_23
  · have h := h.2 c9
    refine x_aload_n (pc := 13) K dX1_tintOf_13 0 rfl rfl ?_
    refine x_get (pc := 14) (ci := 1) (C := RX1) (T := TX1) (N := 8) K (inX1_tintOf) 0 rfl rfl 1 (by decide) kX1_tintOf_0 rfl rfl dX1_tintOf_14 ?_
    refine x_iload_n (pc := 17) K dX1_tintOf_17 1 rfl rfl ?_
    have g9 := h.1
    replace h := h.2
    refine x_iald (pc := 18) K 2 0 rfl rfl g9 dX1_tintOf_18 ?_
    clear g9
    refine x_goto (pc := 19) K dX1_tintOf_19 (tgt := 23) (by decide) ?_
    refine x_keep [false, false] rfl ?_
    exact hE (tint p1.toNatClampNeg) thrown_2 _ _ h dX1_tintOf_23
abbrev rm_X1_inConflict : Room := { frames := 10, cells := 0, slots := 0, locals := 200 }
theorem inX1_inConflict : ∀ w ∈ u_ws RX1 TX1 8, w ∈ wsX1_inConflict := by decide +kernel
theorem kX1_inConflict_0 : Cond.fieldLink RX1 20 "FourTintsModel" "near" "[I" ∈ wsX1_inConflict := by decide +kernel
theorem kX1_inConflict_1 : Cond.fieldLink RX1 13 "FourTintsModel" "tint" "[I" ∈ wsX1_inConflict := by decide +kernel
def q_X1_inConflict_L16 (u2 : Int32) (tint : Nat → Int32) (near : Nat → Int32) (P0 : Int32 → Prop) : Nat → Int32 → Int32 → Prop
  | 0, _, _ => False
  | n + 1, x1, x3 => ((u2 ≤ x3 → P0 x1) ∧ (¬ u2 ≤ x3 → xin u2 10 = true ∧ ((¬ (((near u2.toNatClampNeg) >>> (x3 &&& 31)) &&& (1 : Int32)) = (1 : Int32) → xl (x1 + (0 : Int32)) (fun y4 => q_X1_inConflict_L16 u2 tint near P0 n y4 (x3 + (1 : Int32)))) ∧ ((((near u2.toNatClampNeg) >>> (x3 &&& 31)) &&& (1 : Int32)) = (1 : Int32) → xin u2 10 = true ∧ (((tint u2.toNatClampNeg) ≤ (0 : Int32) → xl (x1 + (0 : Int32)) (fun y5 => q_X1_inConflict_L16 u2 tint near P0 n y5 (x3 + (1 : Int32)))) ∧ (¬ (tint u2.toNatClampNeg) ≤ (0 : Int32) → xin u2 10 = true ∧ xin x3 10 = true ∧ ((¬ (tint u2.toNatClampNeg) = (tint x3.toNatClampNeg) → xl (x1 + (0 : Int32)) (fun y6 => q_X1_inConflict_L16 u2 tint near P0 n y6 (x3 + (1 : Int32)))) ∧ ((tint u2.toNatClampNeg) = (tint x3.toNatClampNeg) → xl (x1 + (1 : Int32)) (fun y7 => q_X1_inConflict_L16 u2 tint near P0 n y7 (x3 + (1 : Int32)))))))))))
def q_X1_inConflict_L8 (tint : Nat → Int32) (near : Nat → Int32) (P0 : Int32 → Prop) : Nat → Int32 → Int32 → Prop
  | 0, _, _ => False
  | n + 1, x1, x2 => (((10 : Int32) ≤ x2 → P0 x1) ∧ (¬ (10 : Int32) ≤ x2 → (∃ n8 : Nat, q_X1_inConflict_L16 x2 tint near (fun (v9 : Int32) => q_X1_inConflict_L8 tint near P0 n v9 (x2 + (1 : Int32))) n8 x1 (0 : Int32))))
def q_X1_inConflict (cel : Nat → Int32) (tint : Nat → Int32) (cells : Nat → Int64) (near : Nat → Int32) (P : Int32 → (Nat → Int64) → (Nat → Int32) → Int32 → Prop) : Prop := q_X1_looks cel cells near (fun (cells_1 : Nat → Int64) (near_2 : Nat → Int32) (there_3 : Int32) => (∃ n10 : Nat, q_X1_inConflict_L8 tint near_2 (fun (v11 : Int32) => P v11 cells_1 near_2 there_3) n10 (0 : Int32) (0 : Int32)))
set_option maxHeartbeats 4000000 in
set_option maxRecDepth 100000 in
theorem w_X1_inConflict_L16 {X : xC} {l : Launch} {D : va_G} {cI cJ cZ cA : ClassId} {V : Nat → Nat} (K : xk X l rm_X1_inConflict D vwCl (xtys cI cJ cZ cA) cX1_inConflict RX1 wsX1_inConflict 4) (u2 : Int32) (cel : Nat → Int32) (tint : Nat → Int32) (cells : Nat → Int64) (near : Nat → Int32) (there : Int32) (ways : Nat → Int64) (more : Nat → Int64) (thrown : Int32) (P0 : Int32 → Prop) : ∀ (n : Nat) (x1 : Int32) (x3 : Int32), q_X1_inConflict_L16 u2 tint near P0 n x1 x3 → (∀ (z0 : Int32), P0 z0 → xw X 0 0 73 [(0, .ref (V 0)), (1, .int z0), (2, .int u2)] [] (wX1 cI cJ cZ cA V cel tint cells near there ways more thrown)) → xw X 0 0 16 [(0, .ref (V 0)), (1, .int x1), (2, .int u2), (3, .int x3)] [] (wX1 cI cJ cZ cA V cel tint cells near there ways more thrown) := by
  intro n
  induction n with
  | zero =>
    intro x1 x3 h
    rw [q_X1_inConflict_L16] at h
    exact h.elim
  | succ n ih =>
    intro x1 x3 h k0
    rw [q_X1_inConflict_L16] at h
    refine x_iload_n (pc := 16) K dX1_inConflict_16 3 rfl rfl ?_
    refine x_iload_n (pc := 17) K dX1_inConflict_17 2 rfl rfl ?_
    refine x_icmp_ge (pc := 18) K dX1_inConflict_18 (tgt := 73) (by decide) (fun c9 => ?_) (fun c9 => ?_)
    · have h := h.1 c9
      refine x_keep [true, true, true, false] rfl ?_
      exact k0 x1 h
    · have h := h.2 c9
      refine x_iload_n (pc := 21) K dX1_inConflict_21 1 rfl rfl ?_
      refine x_aload_n (pc := 22) K dX1_inConflict_22 0 rfl rfl ?_
      refine x_get (pc := 23) (ci := 1) (C := RX1) (T := TX1) (N := 8) K (inX1_inConflict) 0 rfl rfl 3 (by decide) kX1_inConflict_0 rfl rfl dX1_inConflict_23 ?_
      refine x_iload_n (pc := 26) K dX1_inConflict_26 2 rfl rfl ?_
      have g9 := h.1
      replace h := h.2
      refine x_iald (pc := 27) K 4 0 rfl rfl g9 dX1_inConflict_27 ?_
      clear g9
      refine x_iload_n (pc := 28) K dX1_inConflict_28 3 rfl rfl ?_
      refine x_ishr (pc := 29) K dX1_inConflict_29 ?_
      refine x_iconst (v := (1)) (pc := 30) K dX1_inConflict_30 (by decide) ?_
      refine x_iand (pc := 31) K dX1_inConflict_31 ?_
      refine x_iconst (v := (1)) (pc := 32) K dX1_inConflict_32 (by decide) ?_
      refine x_icmp_ne (pc := 33) K dX1_inConflict_33 (tgt := 64) (by decide) (fun c9 => ?_) (fun c9 => ?_)
      · have h := h.1 c9
        refine x_keep [true, false, true, true] rfl ?_
        refine x_iconst (v := (0)) (pc := 64) K dX1_inConflict_64 (by decide) ?_
        refine x_iadd (pc := 65) K dX1_inConflict_65 ?_
        obtain ⟨y4, ey4, h⟩ := xl_o h
        refine x_topi ey4 ?_
        clear ey4
        refine x_istore_n (lv' := [(0, .ref (V 0)), (1, .int y4), (2, .int u2), (3, .int x3)]) (pc := 66) K dX1_inConflict_66 rfl (by decide) rfl ?_
        refine x_iinc (v := x3 + (1 : Int32)) (lv' := [(0, .ref (V 0)), (1, .int y4), (2, .int u2), (3, .int (x3 + (1 : Int32)))]) (pc := 67) K dX1_inConflict_67 (k := 3) rfl rfl (by decide) rfl ?_
        refine x_goto (pc := 70) K dX1_inConflict_70 (tgt := 16) (by decide) ?_
        exact ih y4 (x3 + (1 : Int32)) h k0
      · have h := h.2 c9
        refine x_keep [true, false, true, true] rfl ?_
        refine x_aload_n (pc := 36) K dX1_inConflict_36 0 rfl rfl ?_
        refine x_get (pc := 37) (ci := 1) (C := RX1) (T := TX1) (N := 8) K (inX1_inConflict) 0 rfl rfl 1 (by decide) kX1_inConflict_1 rfl rfl dX1_inConflict_37 ?_
        refine x_iload_n (pc := 40) K dX1_inConflict_40 1 rfl rfl ?_
        have g9 := h.1
        replace h := h.2
        refine x_iald (pc := 41) K 2 0 rfl rfl g9 dX1_inConflict_41 ?_
        clear g9
        refine x_if_le (pc := 42) K dX1_inConflict_42 (tgt := 64) (by decide) (fun c9 => ?_) (fun c9 => ?_)
        · have h := h.1 c9
          refine x_iconst (v := (0)) (pc := 64) K dX1_inConflict_64 (by decide) ?_
          refine x_iadd (pc := 65) K dX1_inConflict_65 ?_
          obtain ⟨y5, ey5, h⟩ := xl_o h
          refine x_topi ey5 ?_
          clear ey5
          refine x_istore_n (lv' := [(0, .ref (V 0)), (1, .int y5), (2, .int u2), (3, .int x3)]) (pc := 66) K dX1_inConflict_66 rfl (by decide) rfl ?_
          refine x_iinc (v := x3 + (1 : Int32)) (lv' := [(0, .ref (V 0)), (1, .int y5), (2, .int u2), (3, .int (x3 + (1 : Int32)))]) (pc := 67) K dX1_inConflict_67 (k := 3) rfl rfl (by decide) rfl ?_
          refine x_goto (pc := 70) K dX1_inConflict_70 (tgt := 16) (by decide) ?_
          exact ih y5 (x3 + (1 : Int32)) h k0
        · have h := h.2 c9
          refine x_aload_n (pc := 45) K dX1_inConflict_45 0 rfl rfl ?_
          refine x_get (pc := 46) (ci := 1) (C := RX1) (T := TX1) (N := 8) K (inX1_inConflict) 0 rfl rfl 1 (by decide) kX1_inConflict_1 rfl rfl dX1_inConflict_46 ?_
          refine x_iload_n (pc := 49) K dX1_inConflict_49 1 rfl rfl ?_
          have g9 := h.1
          replace h := h.2
          refine x_iald (pc := 50) K 2 0 rfl rfl g9 dX1_inConflict_50 ?_
          clear g9
          refine x_aload_n (pc := 51) K dX1_inConflict_51 0 rfl rfl ?_
          refine x_get (pc := 52) (ci := 1) (C := RX1) (T := TX1) (N := 8) K (inX1_inConflict) 0 rfl rfl 1 (by decide) kX1_inConflict_1 rfl rfl dX1_inConflict_52 ?_
          refine x_iload_n (pc := 55) K dX1_inConflict_55 2 rfl rfl ?_
          have g9 := h.1
          replace h := h.2
          refine x_iald (pc := 56) K 2 0 rfl rfl g9 dX1_inConflict_56 ?_
          clear g9
          refine x_icmp_ne (pc := 57) K dX1_inConflict_57 (tgt := 64) (by decide) (fun c9 => ?_) (fun c9 => ?_)
          · have h := h.1 c9
            refine x_iconst (v := (0)) (pc := 64) K dX1_inConflict_64 (by decide) ?_
            refine x_iadd (pc := 65) K dX1_inConflict_65 ?_
            obtain ⟨y6, ey6, h⟩ := xl_o h
            refine x_topi ey6 ?_
            clear ey6
            refine x_istore_n (lv' := [(0, .ref (V 0)), (1, .int y6), (2, .int u2), (3, .int x3)]) (pc := 66) K dX1_inConflict_66 rfl (by decide) rfl ?_
            refine x_iinc (v := x3 + (1 : Int32)) (lv' := [(0, .ref (V 0)), (1, .int y6), (2, .int u2), (3, .int (x3 + (1 : Int32)))]) (pc := 67) K dX1_inConflict_67 (k := 3) rfl rfl (by decide) rfl ?_
            refine x_goto (pc := 70) K dX1_inConflict_70 (tgt := 16) (by decide) ?_
            exact ih y6 (x3 + (1 : Int32)) h k0
          · have h := h.2 c9
            refine x_iconst (v := (1)) (pc := 60) K dX1_inConflict_60 (by decide) ?_
            refine x_goto (pc := 61) K dX1_inConflict_61 (tgt := 65) (by decide) ?_
            refine x_iadd (pc := 65) K dX1_inConflict_65 ?_
            obtain ⟨y7, ey7, h⟩ := xl_o h
            refine x_topi ey7 ?_
            clear ey7
            refine x_istore_n (lv' := [(0, .ref (V 0)), (1, .int y7), (2, .int u2), (3, .int x3)]) (pc := 66) K dX1_inConflict_66 rfl (by decide) rfl ?_
            refine x_iinc (v := x3 + (1 : Int32)) (lv' := [(0, .ref (V 0)), (1, .int y7), (2, .int u2), (3, .int (x3 + (1 : Int32)))]) (pc := 67) K dX1_inConflict_67 (k := 3) rfl rfl (by decide) rfl ?_
            refine x_goto (pc := 70) K dX1_inConflict_70 (tgt := 16) (by decide) ?_
            exact ih y7 (x3 + (1 : Int32)) h k0
set_option maxHeartbeats 4000000 in
set_option maxRecDepth 100000 in
theorem w_X1_inConflict_L8 {X : xC} {l : Launch} {D : va_G} {cI cJ cZ cA : ClassId} {V : Nat → Nat} (K : xk X l rm_X1_inConflict D vwCl (xtys cI cJ cZ cA) cX1_inConflict RX1 wsX1_inConflict 4) (cel : Nat → Int32) (tint : Nat → Int32) (cells : Nat → Int64) (near : Nat → Int32) (there : Int32) (ways : Nat → Int64) (more : Nat → Int64) (thrown : Int32) (P0 : Int32 → Prop) : ∀ (n : Nat) (x1 : Int32) (x2 : Int32), q_X1_inConflict_L8 tint near P0 n x1 x2 → (∀ (z0 : Int32), P0 z0 → xw X 0 0 79 [(1, .int z0)] [] (wX1 cI cJ cZ cA V cel tint cells near there ways more thrown)) → xw X 0 0 8 [(0, .ref (V 0)), (1, .int x1), (2, .int x2)] [] (wX1 cI cJ cZ cA V cel tint cells near there ways more thrown) := by
  intro n
  induction n with
  | zero =>
    intro x1 x2 h
    rw [q_X1_inConflict_L8] at h
    exact h.elim
  | succ n ih =>
    intro x1 x2 h k0
    rw [q_X1_inConflict_L8] at h
    refine x_iload_n (pc := 8) K dX1_inConflict_8 2 rfl rfl ?_
    refine x_bipush (v := (10)) (pc := 9) K dX1_inConflict_9 (by decide) ?_
    refine x_icmp_ge (pc := 11) K dX1_inConflict_11 (tgt := 79) (by decide) (fun c9 => ?_) (fun c9 => ?_)
    · have h := h.1 c9
      refine x_keep [false, true, false] rfl ?_
      exact k0 x1 h
    · have h := h.2 c9
      refine x_iconst (v := (0)) (pc := 14) K dX1_inConflict_14 (by decide) ?_
      refine x_istore_n (lv' := [(0, .ref (V 0)), (1, .int x1), (2, .int x2), (3, .int (0 : Int32))]) (pc := 15) K dX1_inConflict_15 rfl (by decide) rfl ?_
      obtain ⟨n8, h⟩ := h
      refine w_X1_inConflict_L16 K x2 cel tint cells near there ways more thrown _ n8 x1 (0 : Int32) h (fun v9 h => ?_)
      refine x_iinc (v := x2 + (1 : Int32)) (lv' := [(0, .ref (V 0)), (1, .int v9), (2, .int (x2 + (1 : Int32)))]) (pc := 73) K dX1_inConflict_73 (k := 2) rfl rfl (by decide) rfl ?_
      refine x_goto (pc := 76) K dX1_inConflict_76 (tgt := 8) (by decide) ?_
      exact ih v9 (x2 + (1 : Int32)) h k0
set_option maxHeartbeats 4000000 in
set_option maxRecDepth 100000 in
theorem c_X1_inConflict (l : Launch) (D : va_G) (cI cJ cZ cA : ClassId) (V : Nat → Nat) (cel : Nat → Int32) (tint : Nat → Int32) (cells : Nat → Int64) (near : Nat → Int32) (there : Int32) (ways : Nat → Int64) (more : Nat → Int64) (thrown : Int32) (P : Int32 → (Nat → Int64) → (Nat → Int32) → Int32 → Prop) (h : q_X1_inConflict cel tint cells near P) : xMi l yX1_inConflict wsX1_inConflict rm_X1_inConflict D vwCl (xtys cI cJ cZ cA) (wX1 cI cJ cZ cA V cel tint cells near there ways more thrown) [.ref (V 0)] (σ := (Nat → Int64) × (Nat → Int32) × Int32) (fun u => (wX1 cI cJ cZ cA V cel tint u.1 u.2.1 u.2.2 ways more thrown)) (fun r u => P r u.1 u.2.1 u.2.2) := by
  refine xMi_of (cc := cX1_inConflict) (maxL := 4) (by decide) rfl (Nat.le_of_ble_eq_true rfl) ?_
  intro X K hE
  have K : xk X l rm_X1_inConflict D vwCl (xtys cI cJ cZ cA) cX1_inConflict RX1 wsX1_inConflict 4 := K
  unfold q_X1_inConflict at h
  refine x_aload_n (pc := 0) K dX1_inConflict_0 0 rfl rfl ?_
  refine x_callVv (pc := 1) (n := 0) K (c_X1_looks l D cI cJ cZ cA V cel tint cells near there ways more thrown _ h) rfl rfl gX1_inConflict_X1_looks rfl (by decide +kernel) ⟨Nat.le_of_ble_eq_true rfl, Nat.le_of_ble_eq_true rfl⟩ rfl (av := []) (b := V 0) (ci := 1) (q0 := 0) rfl rfl rfl (Nat.le_of_ble_eq_true rfl) [0, 1, 2, 3, 4, 5, 6] [] (wr := []) rfl rfl rfl rfl (by decide) dX1_inConflict_1 ⟨Nat.le_of_ble_eq_true rfl, Nat.le_of_ble_eq_true rfl⟩ (fun u9 h => ?_)
  obtain ⟨cells_1, near_2, there_3⟩ := u9
  refine x_ws (ws' := (wX1 cI cJ cZ cA V cel tint cells_1 near_2 there_3 ways more thrown)) rfl ?_
  refine x_iconst (v := (0)) (pc := 4) K dX1_inConflict_4 (by decide) ?_
  refine x_istore_n (lv' := [(0, .ref (V 0)), (1, .int (0 : Int32))]) (pc := 5) K dX1_inConflict_5 rfl (by decide) rfl ?_
  refine x_iconst (v := (0)) (pc := 6) K dX1_inConflict_6 (by decide) ?_
  refine x_istore_n (lv' := [(0, .ref (V 0)), (1, .int (0 : Int32)), (2, .int (0 : Int32))]) (pc := 7) K dX1_inConflict_7 rfl (by decide) rfl ?_
  obtain ⟨n10, h⟩ := h
  refine w_X1_inConflict_L8 K cel tint cells_1 near_2 there_3 ways more thrown _ n10 (0 : Int32) (0 : Int32) h (fun v11 h => ?_)
  refine x_iload_n (pc := 79) K dX1_inConflict_79 0 rfl rfl ?_
  exact hE v11 (cells_1, near_2, there_3) _ _ h dX1_inConflict_80
abbrev rm_X1_conflicts : Room := { frames := 11, cells := 0, slots := 0, locals := 240 }
def q_X1_conflicts (cel : Nat → Int32) (tint : Nat → Int32) (cells : Nat → Int64) (near : Nat → Int32) (P : Int32 → (Nat → Int64) → (Nat → Int32) → Int32 → Int32 → Prop) : Prop := q_X1_inConflict cel tint cells near (fun (r4 : Int32) (cells_1 : Nat → Int64) (near_2 : Nat → Int32) (there_3 : Int32) => q_X1_told r4 (fun (r6 : Int32) (thrown_5 : Int32) => P r6 cells_1 near_2 there_3 thrown_5))
set_option maxHeartbeats 4000000 in
set_option maxRecDepth 100000 in
theorem c_X1_conflicts (l : Launch) (D : va_G) (cI cJ cZ cA : ClassId) (V : Nat → Nat) (cel : Nat → Int32) (tint : Nat → Int32) (cells : Nat → Int64) (near : Nat → Int32) (there : Int32) (ways : Nat → Int64) (more : Nat → Int64) (thrown : Int32) (P : Int32 → (Nat → Int64) → (Nat → Int32) → Int32 → Int32 → Prop) (h : q_X1_conflicts cel tint cells near P) : xMi l yX1_conflicts wsX1_conflicts rm_X1_conflicts D vwCl (xtys cI cJ cZ cA) (wX1 cI cJ cZ cA V cel tint cells near there ways more thrown) [.ref (V 0)] (σ := (Nat → Int64) × (Nat → Int32) × Int32 × Int32) (fun u => (wX1 cI cJ cZ cA V cel tint u.1 u.2.1 u.2.2.1 ways more u.2.2.2)) (fun r u => P r u.1 u.2.1 u.2.2.1 u.2.2.2) := by
  refine xMi_of (cc := cX1_conflicts) (maxL := 1) (by decide) rfl (Nat.le_of_ble_eq_true rfl) ?_
  intro X K hE
  have K : xk X l rm_X1_conflicts D vwCl (xtys cI cJ cZ cA) cX1_conflicts RX1 wsX1_conflicts 1 := K
  unfold q_X1_conflicts at h
  refine x_aload_n (pc := 0) K dX1_conflicts_0 0 rfl rfl ?_
  refine x_aload_n (pc := 1) K dX1_conflicts_1 0 rfl rfl ?_
  refine x_callVi (pc := 2) (n := 0) K (c_X1_inConflict l D cI cJ cZ cA V cel tint cells near there ways more thrown _ h) rfl rfl gX1_conflicts_X1_inConflict rfl (by decide +kernel) ⟨Nat.le_of_ble_eq_true rfl, Nat.le_of_ble_eq_true rfl⟩ rfl (av := []) (b := V 0) (ci := 1) (q0 := 0) rfl rfl rfl (Nat.le_of_ble_eq_true rfl) [0, 1, 2, 3, 4, 5, 6] [] (wr := []) rfl rfl rfl rfl (by decide) dX1_conflicts_2 ⟨Nat.le_of_ble_eq_true rfl, Nat.le_of_ble_eq_true rfl⟩ (fun r4 u9 h => ?_)
  obtain ⟨cells_1, near_2, there_3⟩ := u9
  refine x_ws (ws' := (wX1 cI cJ cZ cA V cel tint cells_1 near_2 there_3 ways more thrown)) rfl ?_
  refine x_callVi (pc := 5) (n := 1) K (c_X1_told l D cI cJ cZ cA V r4 cel tint cells_1 near_2 there_3 ways more thrown _ h) rfl rfl gX1_conflicts_X1_told rfl (by decide +kernel) ⟨Nat.le_of_ble_eq_true rfl, Nat.le_of_ble_eq_true rfl⟩ rfl (av := [.int r4]) (b := V 0) (ci := 1) (q0 := 0) rfl rfl rfl (Nat.le_of_ble_eq_true rfl) [0, 1, 2, 3, 4, 5, 6] [] (wr := []) rfl rfl rfl rfl (by decide) dX1_conflicts_5 ⟨Nat.le_of_ble_eq_true rfl, Nat.le_of_ble_eq_true rfl⟩ (fun r6 thrown_5 h => ?_)
  refine x_ws (ws' := (wX1 cI cJ cZ cA V cel tint cells_1 near_2 there_3 ways more thrown_5)) rfl ?_
  exact hE r6 (cells_1, near_2, there_3, thrown_5) _ _ h dX1_conflicts_8
abbrev rm_X1_isTinted : Room := { frames := 11, cells := 0, slots := 0, locals := 240 }
theorem inX1_isTinted : ∀ w ∈ u_ws RX1 TX1 8, w ∈ wsX1_isTinted := by decide +kernel
theorem kX1_isTinted_0 : Cond.fieldLink RX1 29 "FourTintsModel" "thrown" "I" ∈ wsX1_isTinted := by decide +kernel
theorem kX1_isTinted_1 : Cond.fieldLink RX1 13 "FourTintsModel" "tint" "[I" ∈ wsX1_isTinted := by decide +kernel
def q_X1_isTinted_L20 (tint : Nat → Int32) (there : Int32) (P0 : Int32 → Prop) : Nat → Int32 → Int32 → Prop
  | 0, _, _ => False
  | n + 1, x1, x2 => (((10 : Int32) ≤ x2 → P0 x1) ∧ (¬ (10 : Int32) ≤ x2 → ((x1 = (0 : Int32) → q_X1_isTinted_L20 tint there P0 n (0 : Int32) (x2 + (1 : Int32))) ∧ (¬ x1 = (0 : Int32) → q_X1_isThere x2 there (fun (r7 : Int32) => ((r7 = (0 : Int32) → q_X1_isTinted_L20 tint there P0 n (1 : Int32) (x2 + (1 : Int32))) ∧ (¬ r7 = (0 : Int32) → xin x2 10 = true ∧ (((tint x2.toNatClampNeg) ≤ (0 : Int32) → q_X1_isTinted_L20 tint there P0 n (0 : Int32) (x2 + (1 : Int32))) ∧ (¬ (tint x2.toNatClampNeg) ≤ (0 : Int32) → q_X1_isTinted_L20 tint there P0 n (1 : Int32) (x2 + (1 : Int32)))))))))))
def q_X1_isTinted (cel : Nat → Int32) (tint : Nat → Int32) (cells : Nat → Int64) (near : Nat → Int32) (P : Int32 → (Nat → Int64) → (Nat → Int32) → Int32 → Int32 → Prop) : Prop := q_X1_inConflict cel tint cells near (fun (r4 : Int32) (cells_1 : Nat → Int64) (near_2 : Nat → Int32) (there_3 : Int32) => xj1 (fun (v6 : Int32) => (∃ n8 : Nat, q_X1_isTinted_L20 tint there_3 (fun (v9 : Int32) => (xbool v9 ∧ P v9 cells_1 near_2 there_3 (0 : Int32))) n8 v6 (0 : Int32))) (fun (J5 : Int32 → Prop) => ((¬ r4 = (0 : Int32) → J5 (0 : Int32)) ∧ (r4 = (0 : Int32) → J5 (1 : Int32)))))
set_option maxHeartbeats 4000000 in
set_option maxRecDepth 100000 in
theorem w_X1_isTinted_L20 {X : xC} {l : Launch} {D : va_G} {cI cJ cZ cA : ClassId} {V : Nat → Nat} (K : xk X l rm_X1_isTinted D vwCl (xtys cI cJ cZ cA) cX1_isTinted RX1 wsX1_isTinted 3) (cel : Nat → Int32) (tint : Nat → Int32) (cells : Nat → Int64) (near : Nat → Int32) (there : Int32) (ways : Nat → Int64) (more : Nat → Int64) (thrown : Int32) (P0 : Int32 → Prop) : ∀ (n : Nat) (x1 : Int32) (x2 : Int32), q_X1_isTinted_L20 tint there P0 n x1 x2 → (∀ (z0 : Int32), P0 z0 → xw X 0 0 59 [(1, .int z0)] [] (wX1 cI cJ cZ cA V cel tint cells near there ways more thrown)) → xw X 0 0 20 [(0, .ref (V 0)), (1, .int x1), (2, .int x2)] [] (wX1 cI cJ cZ cA V cel tint cells near there ways more thrown) := by
  intro n
  induction n with
  | zero =>
    intro x1 x2 h
    rw [q_X1_isTinted_L20] at h
    exact h.elim
  | succ n ih =>
    intro x1 x2 h k0
    rw [q_X1_isTinted_L20] at h
    refine x_iload_n (pc := 20) K dX1_isTinted_20 2 rfl rfl ?_
    refine x_bipush (v := (10)) (pc := 21) K dX1_isTinted_21 (by decide) ?_
    refine x_icmp_ge (pc := 23) K dX1_isTinted_23 (tgt := 59) (by decide) (fun c9 => ?_) (fun c9 => ?_)
    · have h := h.1 c9
      refine x_keep [false, true, false] rfl ?_
      exact k0 x1 h
    · have h := h.2 c9
      refine x_iload_n (pc := 26) K dX1_isTinted_26 1 rfl rfl ?_
      refine x_if_eq (pc := 27) K dX1_isTinted_27 (tgt := 51) (by decide) (fun c9 => ?_) (fun c9 => ?_)
      · have h := h.1 c9
        refine x_keep [true, false, true] rfl ?_
        refine x_iconst (v := (0)) (pc := 51) K dX1_isTinted_51 (by decide) ?_
        refine x_istore_n (lv' := [(0, .ref (V 0)), (1, .int (0 : Int32)), (2, .int x2)]) (pc := 52) K dX1_isTinted_52 rfl (by decide) rfl ?_
        refine x_iinc (v := x2 + (1 : Int32)) (lv' := [(0, .ref (V 0)), (1, .int (0 : Int32)), (2, .int (x2 + (1 : Int32)))]) (pc := 53) K dX1_isTinted_53 (k := 2) rfl rfl (by decide) rfl ?_
        refine x_goto (pc := 56) K dX1_isTinted_56 (tgt := 20) (by decide) ?_
        exact ih (0 : Int32) (x2 + (1 : Int32)) h k0
      · have h := h.2 c9
        refine x_keep [true, false, true] rfl ?_
        refine x_aload_n (pc := 30) K dX1_isTinted_30 0 rfl rfl ?_
        refine x_iload_n (pc := 31) K dX1_isTinted_31 1 rfl rfl ?_
        refine x_callVz (pc := 32) (n := 1) K (c_X1_isThere l D cI cJ cZ cA V x2 cel tint cells near there ways more thrown _ h) rfl rfl gX1_isTinted_X1_isThere rfl (by decide +kernel) ⟨Nat.le_of_ble_eq_true rfl, Nat.le_of_ble_eq_true rfl⟩ rfl (av := [.int x2]) (b := V 0) (ci := 1) (q0 := 0) rfl rfl rfl (Nat.le_of_ble_eq_true rfl) [0, 1, 2, 3, 4, 5, 6] [] (wr := []) rfl rfl rfl rfl (by decide) dX1_isTinted_32 ⟨Nat.le_of_ble_eq_true rfl, Nat.le_of_ble_eq_true rfl⟩ (fun r7 u9 h => ?_)
        refine x_ws (ws' := (wX1 cI cJ cZ cA V cel tint cells near there ways more thrown)) rfl ?_
        refine x_if_eq (pc := 35) K dX1_isTinted_35 (tgt := 47) (by decide) (fun c9 => ?_) (fun c9 => ?_)
        · have h := h.1 c9
          refine x_iconst (v := (1)) (pc := 47) K dX1_isTinted_47 (by decide) ?_
          refine x_goto (pc := 48) K dX1_isTinted_48 (tgt := 52) (by decide) ?_
          refine x_istore_n (lv' := [(0, .ref (V 0)), (1, .int (1 : Int32)), (2, .int x2)]) (pc := 52) K dX1_isTinted_52 rfl (by decide) rfl ?_
          refine x_iinc (v := x2 + (1 : Int32)) (lv' := [(0, .ref (V 0)), (1, .int (1 : Int32)), (2, .int (x2 + (1 : Int32)))]) (pc := 53) K dX1_isTinted_53 (k := 2) rfl rfl (by decide) rfl ?_
          refine x_goto (pc := 56) K dX1_isTinted_56 (tgt := 20) (by decide) ?_
          exact ih (1 : Int32) (x2 + (1 : Int32)) h k0
        · have h := h.2 c9
          refine x_aload_n (pc := 38) K dX1_isTinted_38 0 rfl rfl ?_
          refine x_get (pc := 39) (ci := 1) (C := RX1) (T := TX1) (N := 8) K (inX1_isTinted) 0 rfl rfl 1 (by decide) kX1_isTinted_1 rfl rfl dX1_isTinted_39 ?_
          refine x_iload_n (pc := 42) K dX1_isTinted_42 1 rfl rfl ?_
          have g9 := h.1
          replace h := h.2
          refine x_iald (pc := 43) K 2 0 rfl rfl g9 dX1_isTinted_43 ?_
          clear g9
          refine x_if_le (pc := 44) K dX1_isTinted_44 (tgt := 51) (by decide) (fun c9 => ?_) (fun c9 => ?_)
          · have h := h.1 c9
            refine x_iconst (v := (0)) (pc := 51) K dX1_isTinted_51 (by decide) ?_
            refine x_istore_n (lv' := [(0, .ref (V 0)), (1, .int (0 : Int32)), (2, .int x2)]) (pc := 52) K dX1_isTinted_52 rfl (by decide) rfl ?_
            refine x_iinc (v := x2 + (1 : Int32)) (lv' := [(0, .ref (V 0)), (1, .int (0 : Int32)), (2, .int (x2 + (1 : Int32)))]) (pc := 53) K dX1_isTinted_53 (k := 2) rfl rfl (by decide) rfl ?_
            refine x_goto (pc := 56) K dX1_isTinted_56 (tgt := 20) (by decide) ?_
            exact ih (0 : Int32) (x2 + (1 : Int32)) h k0
          · have h := h.2 c9
            refine x_iconst (v := (1)) (pc := 47) K dX1_isTinted_47 (by decide) ?_
            refine x_goto (pc := 48) K dX1_isTinted_48 (tgt := 52) (by decide) ?_
            refine x_istore_n (lv' := [(0, .ref (V 0)), (1, .int (1 : Int32)), (2, .int x2)]) (pc := 52) K dX1_isTinted_52 rfl (by decide) rfl ?_
            refine x_iinc (v := x2 + (1 : Int32)) (lv' := [(0, .ref (V 0)), (1, .int (1 : Int32)), (2, .int (x2 + (1 : Int32)))]) (pc := 53) K dX1_isTinted_53 (k := 2) rfl rfl (by decide) rfl ?_
            refine x_goto (pc := 56) K dX1_isTinted_56 (tgt := 20) (by decide) ?_
            exact ih (1 : Int32) (x2 + (1 : Int32)) h k0
set_option maxHeartbeats 4000000 in
set_option maxRecDepth 100000 in
theorem c_X1_isTinted (l : Launch) (D : va_G) (cI cJ cZ cA : ClassId) (V : Nat → Nat) (cel : Nat → Int32) (tint : Nat → Int32) (cells : Nat → Int64) (near : Nat → Int32) (there : Int32) (ways : Nat → Int64) (more : Nat → Int64) (thrown : Int32) (P : Int32 → (Nat → Int64) → (Nat → Int32) → Int32 → Int32 → Prop) (h : q_X1_isTinted cel tint cells near P) : xMz l yX1_isTinted wsX1_isTinted rm_X1_isTinted D vwCl (xtys cI cJ cZ cA) (wX1 cI cJ cZ cA V cel tint cells near there ways more thrown) [.ref (V 0)] (σ := (Nat → Int64) × (Nat → Int32) × Int32 × Int32) (fun u => (wX1 cI cJ cZ cA V cel tint u.1 u.2.1 u.2.2.1 ways more u.2.2.2)) (fun r u => P r u.1 u.2.1 u.2.2.1 u.2.2.2) := by
  refine xMz_of (cc := cX1_isTinted) (maxL := 3) (by decide) rfl (Nat.le_of_ble_eq_true rfl) ?_
  intro X K hE
  have K : xk X l rm_X1_isTinted D vwCl (xtys cI cJ cZ cA) cX1_isTinted RX1 wsX1_isTinted 3 := K
  unfold q_X1_isTinted at h
  refine x_aload_n (pc := 0) K dX1_isTinted_0 0 rfl rfl ?_
  refine x_iconst (v := (0)) (pc := 1) K dX1_isTinted_1 (by decide) ?_
  refine x_put (ws' := (wX1 cI cJ cZ cA V cel tint cells near there ways more (0 : Int32))) (pc := 2) (ci := 1) (C := RX1) (T := TX1) (N := 8) (ty := .int) K (inX1_isTinted) tyX1 tyX1_ok nmX1 0 rfl rfl 7 (by decide) kX1_isTinted_0 rfl rfl rfl rfl rfl (Nat.le_of_ble_eq_true rfl) rfl dX1_isTinted_2 ?_
  refine x_aload_n (pc := 5) K dX1_isTinted_5 0 rfl rfl ?_
  refine x_callVi (pc := 6) (n := 0) K (c_X1_inConflict l D cI cJ cZ cA V cel tint cells near there ways more (0 : Int32) _ h) rfl rfl gX1_isTinted_X1_inConflict rfl (by decide +kernel) ⟨Nat.le_of_ble_eq_true rfl, Nat.le_of_ble_eq_true rfl⟩ rfl (av := []) (b := V 0) (ci := 1) (q0 := 0) rfl rfl rfl (Nat.le_of_ble_eq_true rfl) [0, 1, 2, 3, 4, 5, 6] [] (wr := []) rfl rfl rfl rfl (by decide) dX1_isTinted_6 ⟨Nat.le_of_ble_eq_true rfl, Nat.le_of_ble_eq_true rfl⟩ (fun r4 u9 h => ?_)
  obtain ⟨cells_1, near_2, there_3⟩ := u9
  refine x_ws (ws' := (wX1 cI cJ cZ cA V cel tint cells_1 near_2 there_3 ways more (0 : Int32))) rfl ?_
  obtain ⟨J5, hJ5, h⟩ := xj1_o h
  have kJ5 : ∀ (v6 : Int32), J5 v6 → xw X 0 0 17 [(0, .ref (V 0))] [.int v6] (wX1 cI cJ cZ cA V cel tint cells_1 near_2 there_3 ways more (0 : Int32)) := by
    intro v6 hj
    have h := hJ5 v6 hj
    refine x_istore_n (lv' := [(0, .ref (V 0)), (1, .int v6)]) (pc := 17) K dX1_isTinted_17 rfl (by decide) rfl ?_
    refine x_iconst (v := (0)) (pc := 18) K dX1_isTinted_18 (by decide) ?_
    refine x_istore_n (lv' := [(0, .ref (V 0)), (1, .int v6), (2, .int (0 : Int32))]) (pc := 19) K dX1_isTinted_19 rfl (by decide) rfl ?_
    obtain ⟨n8, h⟩ := h
    refine w_X1_isTinted_L20 K cel tint cells_1 near_2 there_3 ways more (0 : Int32) _ n8 v6 (0 : Int32) h (fun v9 h => ?_)
    refine x_iload_n (pc := 59) K dX1_isTinted_59 0 rfl rfl ?_
    exact hE v9 (cells_1, near_2, there_3, (0 : Int32)) _ _ h.2 h.1 dX1_isTinted_60
  refine x_if_ne (pc := 9) K dX1_isTinted_9 (tgt := 16) (by decide) (fun c9 => ?_) (fun c9 => ?_)
  · have h := h.1 c9
    refine x_iconst (v := (0)) (pc := 16) K dX1_isTinted_16 (by decide) ?_
    exact kJ5 (0 : Int32) h
  · have h := h.2 c9
    refine x_iconst (v := (1)) (pc := 12) K dX1_isTinted_12 (by decide) ?_
    refine x_goto (pc := 13) K dX1_isTinted_13 (tgt := 17) (by decide) ?_
    exact kJ5 (1 : Int32) h
abbrev rm_X1_least : Room := { frames := 8, cells := 0, slots := 0, locals := 120 }
theorem inX1_least : ∀ w ∈ u_ws RX1 TX1 8, w ∈ wsX1_least := by decide +kernel
theorem kX1_least_0 : Cond.fieldLink RX1 13 "FourTintsModel" "tint" "[I" ∈ wsX1_least := by decide +kernel
def q_X1_least_L4 (u1 : Int32) (tint : Nat → Int32) (P0 : Int32 → Prop) : Nat → Int32 → Int32 → Prop
  | 0, _, _ => False
  | n + 1, x2, x3 => (((10 : Int32) ≤ x3 → P0 x2) ∧ (¬ (10 : Int32) ≤ x3 → xj1 (fun (v2 : Int32) => xj1 (fun (v4 : Int32) => xl (x2 + v4) (fun y5 => ((v2 = (0 : Int32) → xl (x3 + (1 : Int32)) (fun y6 => q_X1_least_L4 u1 tint P0 n y5 y6)) ∧ (¬ v2 = (0 : Int32) → q_X1_least_L4 u1 tint P0 n y5 (0 : Int32))))) (fun (J3 : Int32 → Prop) => ((v2 = (0 : Int32) → J3 (0 : Int32)) ∧ (¬ v2 = (0 : Int32) → J3 (1 : Int32))))) (fun (J1 : Int32 → Prop) => xj0 (J1 (0 : Int32)) (fun (J7 : Prop) => ((¬ ((u1 >>> (x3 &&& 31)) &&& (1 : Int32)) = (1 : Int32) → J7) ∧ (((u1 >>> (x3 &&& 31)) &&& (1 : Int32)) = (1 : Int32) → xin x3 10 = true ∧ ((¬ (tint x3.toNatClampNeg) = x2 → J7) ∧ ((tint x3.toNatClampNeg) = x2 → J1 (1 : Int32)))))))))
def q_X1_least (p1 : Int32) (tint : Nat → Int32) (P : Int32 → Prop) : Prop := (∃ n8 : Nat, q_X1_least_L4 p1 tint (fun (v9 : Int32) => P v9) n8 (1 : Int32) (0 : Int32))
set_option maxHeartbeats 4000000 in
set_option maxRecDepth 100000 in
theorem w_X1_least_L4 {X : xC} {l : Launch} {D : va_G} {cI cJ cZ cA : ClassId} {V : Nat → Nat} (K : xk X l rm_X1_least D vwCl (xtys cI cJ cZ cA) cX1_least RX1 wsX1_least 5) (u1 : Int32) (cel : Nat → Int32) (tint : Nat → Int32) (cells : Nat → Int64) (near : Nat → Int32) (there : Int32) (ways : Nat → Int64) (more : Nat → Int64) (thrown : Int32) (P0 : Int32 → Prop) : ∀ (n : Nat) (x2 : Int32) (x3 : Int32), q_X1_least_L4 u1 tint P0 n x2 x3 → (∀ (z0 : Int32), P0 z0 → xw X 0 0 65 [(2, .int z0)] [] (wX1 cI cJ cZ cA V cel tint cells near there ways more thrown)) → xw X 0 0 4 [(0, .ref (V 0)), (1, .int u1), (2, .int x2), (3, .int x3)] [] (wX1 cI cJ cZ cA V cel tint cells near there ways more thrown) := by
  intro n
  induction n with
  | zero =>
    intro x2 x3 h
    rw [q_X1_least_L4] at h
    exact h.elim
  | succ n ih =>
    intro x2 x3 h k0
    rw [q_X1_least_L4] at h
    refine x_iload_n (pc := 4) K dX1_least_4 3 rfl rfl ?_
    refine x_bipush (v := (10)) (pc := 5) K dX1_least_5 (by decide) ?_
    refine x_icmp_ge (pc := 7) K dX1_least_7 (tgt := 65) (by decide) (fun c9 => ?_) (fun c9 => ?_)
    · have h := h.1 c9
      refine x_keep [false, false, true, false] rfl ?_
      exact k0 x2 h
    · have h := h.2 c9
      refine x_iload_n (pc := 10) K dX1_least_10 1 rfl rfl ?_
      refine x_iload_n (pc := 11) K dX1_least_11 3 rfl rfl ?_
      refine x_ishr (pc := 12) K dX1_least_12 ?_
      refine x_iconst (v := (1)) (pc := 13) K dX1_least_13 (by decide) ?_
      refine x_iand (pc := 14) K dX1_least_14 ?_
      refine x_iconst (v := (1)) (pc := 15) K dX1_least_15 (by decide) ?_
      obtain ⟨J1, hJ1, h⟩ := xj1_o h
      have kJ1 : ∀ (v2 : Int32), J1 v2 → xw X 0 0 34 [(0, .ref (V 0)), (1, .int u1), (2, .int x2), (3, .int x3)] [.int v2] (wX1 cI cJ cZ cA V cel tint cells near there ways more thrown) := by
        intro v2 hj
        have h := hJ1 v2 hj
        refine x_istore (lv' := [(0, .ref (V 0)), (1, .int u1), (2, .int x2), (3, .int x3), (4, .int v2)]) (pc := 34) K dX1_least_34 (by decide) rfl ?_
        refine x_iload_n (pc := 36) K dX1_least_36 2 rfl rfl ?_
        refine x_iload (pc := 37) K dX1_least_37 4 rfl ?_
        obtain ⟨J3, hJ3, h⟩ := xj1_o h
        have kJ3 : ∀ (v4 : Int32), J3 v4 → xw X 0 0 47 [(0, .ref (V 0)), (1, .int u1), (3, .int x3), (4, .int v2)] [.int v4, .int x2] (wX1 cI cJ cZ cA V cel tint cells near there ways more thrown) := by
          intro v4 hj
          have h := hJ3 v4 hj
          refine x_iadd (pc := 47) K dX1_least_47 ?_
          obtain ⟨y5, ey5, h⟩ := xl_o h
          refine x_topi ey5 ?_
          clear ey5
          refine x_istore_n (lv' := [(0, .ref (V 0)), (1, .int u1), (2, .int y5), (3, .int x3), (4, .int v2)]) (pc := 48) K dX1_least_48 rfl (by decide) rfl ?_
          refine x_iload (pc := 49) K dX1_least_49 4 rfl ?_
          refine x_if_eq (pc := 51) K dX1_least_51 (tgt := 58) (by decide) (fun c9 => ?_) (fun c9 => ?_)
          · have h := h.1 c9
            refine x_keep [true, true, true, true, false] rfl ?_
            refine x_iload_n (pc := 58) K dX1_least_58 3 rfl rfl ?_
            refine x_iconst (v := (1)) (pc := 59) K dX1_least_59 (by decide) ?_
            refine x_iadd (pc := 60) K dX1_least_60 ?_
            refine x_keep [true, true, true, false] rfl ?_
            obtain ⟨y6, ey6, h⟩ := xl_o h
            refine x_topi ey6 ?_
            clear ey6
            refine x_istore_n (lv' := [(0, .ref (V 0)), (1, .int u1), (2, .int y5), (3, .int y6)]) (pc := 61) K dX1_least_61 rfl (by decide) rfl ?_
            refine x_goto (pc := 62) K dX1_least_62 (tgt := 4) (by decide) ?_
            exact ih y5 y6 h k0
          · have h := h.2 c9
            refine x_keep [true, true, true, false, false] rfl ?_
            refine x_iconst (v := (0)) (pc := 54) K dX1_least_54 (by decide) ?_
            refine x_goto (pc := 55) K dX1_least_55 (tgt := 61) (by decide) ?_
            refine x_istore_n (lv' := [(0, .ref (V 0)), (1, .int u1), (2, .int y5), (3, .int (0 : Int32))]) (pc := 61) K dX1_least_61 rfl (by decide) rfl ?_
            refine x_goto (pc := 62) K dX1_least_62 (tgt := 4) (by decide) ?_
            exact ih y5 (0 : Int32) h k0
        refine x_if_eq (pc := 39) K dX1_least_39 (tgt := 46) (by decide) (fun c9 => ?_) (fun c9 => ?_)
        · have h := h.1 c9
          refine x_keep [true, true, false, true, true] rfl ?_
          refine x_iconst (v := (0)) (pc := 46) K dX1_least_46 (by decide) ?_
          exact kJ3 (0 : Int32) h
        · have h := h.2 c9
          refine x_keep [true, true, false, true, true] rfl ?_
          refine x_iconst (v := (1)) (pc := 42) K dX1_least_42 (by decide) ?_
          refine x_goto (pc := 43) K dX1_least_43 (tgt := 47) (by decide) ?_
          exact kJ3 (1 : Int32) h
      obtain ⟨J7, hJ7, h⟩ := xj0_o h
      have kJ7 : J7 → xw X 0 0 33 [(0, .ref (V 0)), (1, .int u1), (2, .int x2), (3, .int x3)] [] (wX1 cI cJ cZ cA V cel tint cells near there ways more thrown) := by
        intro  hj
        have h := hJ7  hj
        refine x_iconst (v := (0)) (pc := 33) K dX1_least_33 (by decide) ?_
        exact kJ1 (0 : Int32) h
      refine x_icmp_ne (pc := 16) K dX1_least_16 (tgt := 33) (by decide) (fun c9 => ?_) (fun c9 => ?_)
      · have h := h.1 c9
        exact kJ7  h
      · have h := h.2 c9
        refine x_aload_n (pc := 19) K dX1_least_19 0 rfl rfl ?_
        refine x_get (pc := 20) (ci := 1) (C := RX1) (T := TX1) (N := 8) K (inX1_least) 0 rfl rfl 1 (by decide) kX1_least_0 rfl rfl dX1_least_20 ?_
        refine x_iload_n (pc := 23) K dX1_least_23 3 rfl rfl ?_
        have g9 := h.1
        replace h := h.2
        refine x_iald (pc := 24) K 2 0 rfl rfl g9 dX1_least_24 ?_
        clear g9
        refine x_iload_n (pc := 25) K dX1_least_25 2 rfl rfl ?_
        refine x_icmp_ne (pc := 26) K dX1_least_26 (tgt := 33) (by decide) (fun c9 => ?_) (fun c9 => ?_)
        · have h := h.1 c9
          exact kJ7  h
        · have h := h.2 c9
          refine x_iconst (v := (1)) (pc := 29) K dX1_least_29 (by decide) ?_
          refine x_goto (pc := 30) K dX1_least_30 (tgt := 34) (by decide) ?_
          exact kJ1 (1 : Int32) h
set_option maxHeartbeats 4000000 in
set_option maxRecDepth 100000 in
theorem c_X1_least (l : Launch) (D : va_G) (cI cJ cZ cA : ClassId) (V : Nat → Nat) (p1 : Int32) (cel : Nat → Int32) (tint : Nat → Int32) (cells : Nat → Int64) (near : Nat → Int32) (there : Int32) (ways : Nat → Int64) (more : Nat → Int64) (thrown : Int32) (P : Int32 → Prop) (h : q_X1_least p1 tint P) : xMi l yX1_least wsX1_least rm_X1_least D vwCl (xtys cI cJ cZ cA) (wX1 cI cJ cZ cA V cel tint cells near there ways more thrown) [.ref (V 0), .int p1] (σ := Unit) (fun _ => (wX1 cI cJ cZ cA V cel tint cells near there ways more thrown)) (fun r _ => P r) := by
  refine xMi_of (cc := cX1_least) (maxL := 5) (by decide) rfl (Nat.le_of_ble_eq_true rfl) ?_
  intro X K hE
  have K : xk X l rm_X1_least D vwCl (xtys cI cJ cZ cA) cX1_least RX1 wsX1_least 5 := K
  unfold q_X1_least at h
  refine x_iconst (v := (1)) (pc := 0) K dX1_least_0 (by decide) ?_
  refine x_istore_n (lv' := [(0, .ref (V 0)), (1, .int p1), (2, .int (1 : Int32))]) (pc := 1) K dX1_least_1 rfl (by decide) rfl ?_
  refine x_iconst (v := (0)) (pc := 2) K dX1_least_2 (by decide) ?_
  refine x_istore_n (lv' := [(0, .ref (V 0)), (1, .int p1), (2, .int (1 : Int32)), (3, .int (0 : Int32))]) (pc := 3) K dX1_least_3 rfl (by decide) rfl ?_
  obtain ⟨n8, h⟩ := h
  refine w_X1_least_L4 K p1 cel tint cells near there ways more thrown _ n8 (1 : Int32) (0 : Int32) h (fun v9 h => ?_)
  refine x_iload_n (pc := 65) K dX1_least_65 0 rfl rfl ?_
  exact hE v9 () _ _ h dX1_least_66
abbrev rm_X1_leastFree : Room := { frames := 10, cells := 0, slots := 0, locals := 200 }
theorem inX1_leastFree : ∀ w ∈ u_ws RX1 TX1 8, w ∈ wsX1_leastFree := by decide +kernel
theorem kX1_leastFree_0 : Cond.fieldLink RX1 20 "FourTintsModel" "near" "[I" ∈ wsX1_leastFree := by decide +kernel
def q_X1_leastFree (p1 : Int32) (cel : Nat → Int32) (tint : Nat → Int32) (cells : Nat → Int64) (near : Nat → Int32) (P : Int32 → (Nat → Int64) → (Nat → Int32) → Int32 → Int32 → Prop) : Prop := q_X1_looks cel cells near (fun (cells_1 : Nat → Int64) (near_2 : Nat → Int32) (there_3 : Int32) => q_X1_isCountry p1 (fun (r4 : Int32) => q_X1_goes r4 (1 : Int32) (1 : Int32) (fun (r6 : Int32) (thrown_5 : Int32) => ((r6 = (0 : Int32) → P (0 : Int32) cells_1 near_2 there_3 thrown_5) ∧ (¬ r6 = (0 : Int32) → xin p1 10 = true ∧ q_X1_least (near_2 p1.toNatClampNeg) tint (fun (r7 : Int32) => P r7 cells_1 near_2 there_3 thrown_5))))))
set_option maxHeartbeats 4000000 in
set_option maxRecDepth 100000 in
theorem c_X1_leastFree (l : Launch) (D : va_G) (cI cJ cZ cA : ClassId) (V : Nat → Nat) (p1 : Int32) (cel : Nat → Int32) (tint : Nat → Int32) (cells : Nat → Int64) (near : Nat → Int32) (there : Int32) (ways : Nat → Int64) (more : Nat → Int64) (thrown : Int32) (P : Int32 → (Nat → Int64) → (Nat → Int32) → Int32 → Int32 → Prop) (h : q_X1_leastFree p1 cel tint cells near P) : xMi l yX1_leastFree wsX1_leastFree rm_X1_leastFree D vwCl (xtys cI cJ cZ cA) (wX1 cI cJ cZ cA V cel tint cells near there ways more thrown) [.ref (V 0), .int p1] (σ := (Nat → Int64) × (Nat → Int32) × Int32 × Int32) (fun u => (wX1 cI cJ cZ cA V cel tint u.1 u.2.1 u.2.2.1 ways more u.2.2.2)) (fun r u => P r u.1 u.2.1 u.2.2.1 u.2.2.2) := by
  refine xMi_of (cc := cX1_leastFree) (maxL := 2) (by decide) rfl (Nat.le_of_ble_eq_true rfl) ?_
  intro X K hE
  have K : xk X l rm_X1_leastFree D vwCl (xtys cI cJ cZ cA) cX1_leastFree RX1 wsX1_leastFree 2 := K
  unfold q_X1_leastFree at h
  refine x_aload_n (pc := 0) K dX1_leastFree_0 0 rfl rfl ?_
  refine x_callVv (pc := 1) (n := 0) K (c_X1_looks l D cI cJ cZ cA V cel tint cells near there ways more thrown _ h) rfl rfl gX1_leastFree_X1_looks rfl (by decide +kernel) ⟨Nat.le_of_ble_eq_true rfl, Nat.le_of_ble_eq_true rfl⟩ rfl (av := []) (b := V 0) (ci := 1) (q0 := 0) rfl rfl rfl (Nat.le_of_ble_eq_true rfl) [0, 1, 2, 3, 4, 5, 6] [] (wr := []) rfl rfl rfl rfl (by decide) dX1_leastFree_1 ⟨Nat.le_of_ble_eq_true rfl, Nat.le_of_ble_eq_true rfl⟩ (fun u9 h => ?_)
  obtain ⟨cells_1, near_2, there_3⟩ := u9
  refine x_ws (ws' := (wX1 cI cJ cZ cA V cel tint cells_1 near_2 there_3 ways more thrown)) rfl ?_
  refine x_aload_n (pc := 4) K dX1_leastFree_4 0 rfl rfl ?_
  refine x_iload_n (pc := 5) K dX1_leastFree_5 1 rfl rfl ?_
  refine x_pcallSz (pc := 6) (n := 1) K (c_X1_isCountry l D cI cJ cZ cA p1 _ h) rfl rfl gX1_leastFree_X1_isCountry rfl (by decide +kernel) ⟨Nat.le_of_ble_eq_true rfl, Nat.le_of_ble_eq_true rfl⟩ rfl (av := [.int p1]) rfl (Nat.le_of_ble_eq_true rfl) dX1_leastFree_6 ⟨Nat.le_of_ble_eq_true rfl, Nat.le_of_ble_eq_true rfl⟩ (fun r4 u9 h => ?_)
  refine x_iconst (v := (1)) (pc := 9) K dX1_leastFree_9 (by decide) ?_
  refine x_iconst (v := (1)) (pc := 10) K dX1_leastFree_10 (by decide) ?_
  refine x_callVz (pc := 11) (n := 3) K (c_X1_goes l D cI cJ cZ cA V r4 (1 : Int32) (1 : Int32) cel tint cells_1 near_2 there_3 ways more thrown _ h) rfl rfl gX1_leastFree_X1_goes rfl (by decide +kernel) ⟨Nat.le_of_ble_eq_true rfl, Nat.le_of_ble_eq_true rfl⟩ rfl (av := [.int r4, .int (1 : Int32), .int (1 : Int32)]) (b := V 0) (ci := 1) (q0 := 0) rfl rfl rfl (Nat.le_of_ble_eq_true rfl) [0, 1, 2, 3, 4, 5, 6] [] (wr := []) rfl rfl rfl rfl (by decide) dX1_leastFree_11 ⟨Nat.le_of_ble_eq_true rfl, Nat.le_of_ble_eq_true rfl⟩ (fun r6 thrown_5 h => ?_)
  refine x_ws (ws' := (wX1 cI cJ cZ cA V cel tint cells_1 near_2 there_3 ways more thrown_5)) rfl ?_
  refine x_if_eq (pc := 14) K dX1_leastFree_14 (tgt := 30) (by decide) (fun c9 => ?_) (fun c9 => ?_)
  · have h := h.1 c9
    refine x_keep [false, false] rfl ?_
    refine x_iconst (v := (0)) (pc := 30) K dX1_leastFree_30 (by decide) ?_
    exact hE (0 : Int32) (cells_1, near_2, there_3, thrown_5) _ _ h dX1_leastFree_31
  · have h := h.2 c9
    refine x_aload_n (pc := 17) K dX1_leastFree_17 0 rfl rfl ?_
    refine x_aload_n (pc := 18) K dX1_leastFree_18 0 rfl rfl ?_
    refine x_get (pc := 19) (ci := 1) (C := RX1) (T := TX1) (N := 8) K (inX1_leastFree) 0 rfl rfl 3 (by decide) kX1_leastFree_0 rfl rfl dX1_leastFree_19 ?_
    refine x_iload_n (pc := 22) K dX1_leastFree_22 1 rfl rfl ?_
    have g9 := h.1
    replace h := h.2
    refine x_iald (pc := 23) K 4 0 rfl rfl g9 dX1_leastFree_23 ?_
    clear g9
    refine x_callVi (pc := 24) (n := 1) K (c_X1_least l D cI cJ cZ cA V (near_2 p1.toNatClampNeg) cel tint cells_1 near_2 there_3 ways more thrown_5 _ h) rfl rfl gX1_leastFree_X1_least rfl (by decide +kernel) ⟨Nat.le_of_ble_eq_true rfl, Nat.le_of_ble_eq_true rfl⟩ rfl (av := [.int (near_2 p1.toNatClampNeg)]) (b := V 0) (ci := 1) (q0 := 0) rfl rfl rfl (Nat.le_of_ble_eq_true rfl) [0, 1, 2, 3, 4, 5, 6] [] (wr := []) rfl rfl rfl rfl (by decide) dX1_leastFree_24 ⟨Nat.le_of_ble_eq_true rfl, Nat.le_of_ble_eq_true rfl⟩ (fun r7 u9 h => ?_)
    refine x_ws (ws' := (wX1 cI cJ cZ cA V cel tint cells_1 near_2 there_3 ways more thrown_5)) rfl ?_
    refine x_goto (pc := 27) K dX1_leastFree_27 (tgt := 31) (by decide) ?_
    refine x_keep [false, false] rfl ?_
    exact hE r7 (cells_1, near_2, there_3, thrown_5) _ _ h dX1_leastFree_31
abbrev rm_X1_isChain : Room := { frames := 10, cells := 0, slots := 0, locals := 200 }
theorem inX1_isChain : ∀ w ∈ u_ws RX1 TX1 8, w ∈ wsX1_isChain := by decide +kernel
theorem kX1_isChain_0 : Cond.fieldLink RX1 13 "FourTintsModel" "tint" "[I" ∈ wsX1_isChain := by decide +kernel
def q_X1_isChain (p1 : Int32) (p2 : Int32) (cel : Nat → Int32) (tint : Nat → Int32) (cells : Nat → Int64) (near : Nat → Int32) (P : Int32 → (Nat → Int64) → (Nat → Int32) → Int32 → Int32 → Prop) : Prop := q_X1_looks cel cells near (fun (cells_1 : Nat → Int64) (near_2 : Nat → Int32) (there_3 : Int32) => q_X1_isCountry p1 (fun (r4 : Int32) => q_X1_in p2 (1 : Int32) (10 : Int32) (fun (r5 : Int32) => ((r4 = (0 : Int32) → q_X1_goes r4 r5 (0 : Int32) (fun (r7 : Int32) (thrown_6 : Int32) => (xbool r7 ∧ P r7 cells_1 near_2 there_3 thrown_6))) ∧ (¬ r4 = (0 : Int32) → q_X1_isThere p1 there_3 (fun (r8 : Int32) => ((r8 = (0 : Int32) → q_X1_goes r4 r5 (0 : Int32) (fun (r10 : Int32) (thrown_9 : Int32) => (xbool r10 ∧ P r10 cells_1 near_2 there_3 thrown_9))) ∧ (¬ r8 = (0 : Int32) → xin p1 10 = true ∧ (((tint p1.toNatClampNeg) ≤ (0 : Int32) → q_X1_goes r4 r5 (0 : Int32) (fun (r12 : Int32) (thrown_11 : Int32) => (xbool r12 ∧ P r12 cells_1 near_2 there_3 thrown_11))) ∧ (¬ (tint p1.toNatClampNeg) ≤ (0 : Int32) → q_X1_goes r4 r5 (1 : Int32) (fun (r14 : Int32) (thrown_13 : Int32) => (xbool r14 ∧ P r14 cells_1 near_2 there_3 thrown_13))))))))))))
set_option maxHeartbeats 4000000 in
set_option maxRecDepth 100000 in
theorem c_X1_isChain (l : Launch) (D : va_G) (cI cJ cZ cA : ClassId) (V : Nat → Nat) (p1 : Int32) (p2 : Int32) (cel : Nat → Int32) (tint : Nat → Int32) (cells : Nat → Int64) (near : Nat → Int32) (there : Int32) (ways : Nat → Int64) (more : Nat → Int64) (thrown : Int32) (P : Int32 → (Nat → Int64) → (Nat → Int32) → Int32 → Int32 → Prop) (h : q_X1_isChain p1 p2 cel tint cells near P) : xMz l yX1_isChain wsX1_isChain rm_X1_isChain D vwCl (xtys cI cJ cZ cA) (wX1 cI cJ cZ cA V cel tint cells near there ways more thrown) [.ref (V 0), .int p1, .int p2] (σ := (Nat → Int64) × (Nat → Int32) × Int32 × Int32) (fun u => (wX1 cI cJ cZ cA V cel tint u.1 u.2.1 u.2.2.1 ways more u.2.2.2)) (fun r u => P r u.1 u.2.1 u.2.2.1 u.2.2.2) := by
  refine xMz_of (cc := cX1_isChain) (maxL := 4) (by decide) rfl (Nat.le_of_ble_eq_true rfl) ?_
  intro X K hE
  have K : xk X l rm_X1_isChain D vwCl (xtys cI cJ cZ cA) cX1_isChain RX1 wsX1_isChain 4 := K
  unfold q_X1_isChain at h
  refine x_aload_n (pc := 0) K dX1_isChain_0 0 rfl rfl ?_
  refine x_callVv (pc := 1) (n := 0) K (c_X1_looks l D cI cJ cZ cA V cel tint cells near there ways more thrown _ h) rfl rfl gX1_isChain_X1_looks rfl (by decide +kernel) ⟨Nat.le_of_ble_eq_true rfl, Nat.le_of_ble_eq_true rfl⟩ rfl (av := []) (b := V 0) (ci := 1) (q0 := 0) rfl rfl rfl (Nat.le_of_ble_eq_true rfl) [0, 1, 2, 3, 4, 5, 6] [] (wr := []) rfl rfl rfl rfl (by decide) dX1_isChain_1 ⟨Nat.le_of_ble_eq_true rfl, Nat.le_of_ble_eq_true rfl⟩ (fun u9 h => ?_)
  obtain ⟨cells_1, near_2, there_3⟩ := u9
  refine x_ws (ws' := (wX1 cI cJ cZ cA V cel tint cells_1 near_2 there_3 ways more thrown)) rfl ?_
  refine x_iload_n (pc := 4) K dX1_isChain_4 1 rfl rfl ?_
  refine x_pcallSz (pc := 5) (n := 1) K (c_X1_isCountry l D cI cJ cZ cA p1 _ h) rfl rfl gX1_isChain_X1_isCountry rfl (by decide +kernel) ⟨Nat.le_of_ble_eq_true rfl, Nat.le_of_ble_eq_true rfl⟩ rfl (av := [.int p1]) rfl (Nat.le_of_ble_eq_true rfl) dX1_isChain_5 ⟨Nat.le_of_ble_eq_true rfl, Nat.le_of_ble_eq_true rfl⟩ (fun r4 u9 h => ?_)
  refine x_istore_n (lv' := [(0, .ref (V 0)), (1, .int p1), (2, .int p2), (3, .int r4)]) (pc := 8) K dX1_isChain_8 rfl (by decide) rfl ?_
  refine x_aload_n (pc := 9) K dX1_isChain_9 0 rfl rfl ?_
  refine x_iload_n (pc := 10) K dX1_isChain_10 3 rfl rfl ?_
  refine x_iload_n (pc := 11) K dX1_isChain_11 2 rfl rfl ?_
  refine x_iconst (v := (1)) (pc := 12) K dX1_isChain_12 (by decide) ?_
  refine x_bipush (v := (10)) (pc := 13) K dX1_isChain_13 (by decide) ?_
  refine x_pcallSz (pc := 15) (n := 3) K (c_X1_in l D cI cJ cZ cA p2 (1 : Int32) (10 : Int32) _ h) rfl rfl gX1_isChain_X1_in rfl (by decide +kernel) ⟨Nat.le_of_ble_eq_true rfl, Nat.le_of_ble_eq_true rfl⟩ rfl (av := [.int p2, .int (1 : Int32), .int (10 : Int32)]) rfl (Nat.le_of_ble_eq_true rfl) dX1_isChain_15 ⟨Nat.le_of_ble_eq_true rfl, Nat.le_of_ble_eq_true rfl⟩ (fun r5 u9 h => ?_)
  refine x_iload_n (pc := 18) K dX1_isChain_18 3 rfl rfl ?_
  refine x_if_eq (pc := 19) K dX1_isChain_19 (tgt := 43) (by decide) (fun c9 => ?_) (fun c9 => ?_)
  · have h := h.1 c9
    refine x_keep [false, false, false, false] rfl ?_
    refine x_iconst (v := (0)) (pc := 43) K dX1_isChain_43 (by decide) ?_
    refine x_callVz (pc := 44) (n := 3) K (c_X1_goes l D cI cJ cZ cA V r4 r5 (0 : Int32) cel tint cells_1 near_2 there_3 ways more thrown _ h) rfl rfl gX1_isChain_X1_goes rfl (by decide +kernel) ⟨Nat.le_of_ble_eq_true rfl, Nat.le_of_ble_eq_true rfl⟩ rfl (av := [.int r4, .int r5, .int (0 : Int32)]) (b := V 0) (ci := 1) (q0 := 0) rfl rfl rfl (Nat.le_of_ble_eq_true rfl) [0, 1, 2, 3, 4, 5, 6] [] (wr := []) rfl rfl rfl rfl (by decide) dX1_isChain_44 ⟨Nat.le_of_ble_eq_true rfl, Nat.le_of_ble_eq_true rfl⟩ (fun r7 thrown_6 h => ?_)
    refine x_ws (ws' := (wX1 cI cJ cZ cA V cel tint cells_1 near_2 there_3 ways more thrown_6)) rfl ?_
    exact hE r7 (cells_1, near_2, there_3, thrown_6) _ _ h.2 h.1 dX1_isChain_47
  · have h := h.2 c9
    refine x_keep [true, true, false, false] rfl ?_
    refine x_aload_n (pc := 22) K dX1_isChain_22 0 rfl rfl ?_
    refine x_iload_n (pc := 23) K dX1_isChain_23 1 rfl rfl ?_
    refine x_callVz (pc := 24) (n := 1) K (c_X1_isThere l D cI cJ cZ cA V p1 cel tint cells_1 near_2 there_3 ways more thrown _ h) rfl rfl gX1_isChain_X1_isThere rfl (by decide +kernel) ⟨Nat.le_of_ble_eq_true rfl, Nat.le_of_ble_eq_true rfl⟩ rfl (av := [.int p1]) (b := V 0) (ci := 1) (q0 := 0) rfl rfl rfl (Nat.le_of_ble_eq_true rfl) [0, 1, 2, 3, 4, 5, 6] [] (wr := []) rfl rfl rfl rfl (by decide) dX1_isChain_24 ⟨Nat.le_of_ble_eq_true rfl, Nat.le_of_ble_eq_true rfl⟩ (fun r8 u9 h => ?_)
    refine x_ws (ws' := (wX1 cI cJ cZ cA V cel tint cells_1 near_2 there_3 ways more thrown)) rfl ?_
    refine x_if_eq (pc := 27) K dX1_isChain_27 (tgt := 43) (by decide) (fun c9 => ?_) (fun c9 => ?_)
    · have h := h.1 c9
      refine x_keep [false, false] rfl ?_
      refine x_iconst (v := (0)) (pc := 43) K dX1_isChain_43 (by decide) ?_
      refine x_callVz (pc := 44) (n := 3) K (c_X1_goes l D cI cJ cZ cA V r4 r5 (0 : Int32) cel tint cells_1 near_2 there_3 ways more thrown _ h) rfl rfl gX1_isChain_X1_goes rfl (by decide +kernel) ⟨Nat.le_of_ble_eq_true rfl, Nat.le_of_ble_eq_true rfl⟩ rfl (av := [.int r4, .int r5, .int (0 : Int32)]) (b := V 0) (ci := 1) (q0 := 0) rfl rfl rfl (Nat.le_of_ble_eq_true rfl) [0, 1, 2, 3, 4, 5, 6] [] (wr := []) rfl rfl rfl rfl (by decide) dX1_isChain_44 ⟨Nat.le_of_ble_eq_true rfl, Nat.le_of_ble_eq_true rfl⟩ (fun r10 thrown_9 h => ?_)
      refine x_ws (ws' := (wX1 cI cJ cZ cA V cel tint cells_1 near_2 there_3 ways more thrown_9)) rfl ?_
      exact hE r10 (cells_1, near_2, there_3, thrown_9) _ _ h.2 h.1 dX1_isChain_47
    · have h := h.2 c9
      refine x_aload_n (pc := 30) K dX1_isChain_30 0 rfl rfl ?_
      refine x_get (pc := 31) (ci := 1) (C := RX1) (T := TX1) (N := 8) K (inX1_isChain) 0 rfl rfl 1 (by decide) kX1_isChain_0 rfl rfl dX1_isChain_31 ?_
      refine x_iload_n (pc := 34) K dX1_isChain_34 1 rfl rfl ?_
      have g9 := h.1
      replace h := h.2
      refine x_iald (pc := 35) K 2 0 rfl rfl g9 dX1_isChain_35 ?_
      clear g9
      refine x_if_le (pc := 36) K dX1_isChain_36 (tgt := 43) (by decide) (fun c9 => ?_) (fun c9 => ?_)
      · have h := h.1 c9
        refine x_keep [false, false] rfl ?_
        refine x_iconst (v := (0)) (pc := 43) K dX1_isChain_43 (by decide) ?_
        refine x_callVz (pc := 44) (n := 3) K (c_X1_goes l D cI cJ cZ cA V r4 r5 (0 : Int32) cel tint cells_1 near_2 there_3 ways more thrown _ h) rfl rfl gX1_isChain_X1_goes rfl (by decide +kernel) ⟨Nat.le_of_ble_eq_true rfl, Nat.le_of_ble_eq_true rfl⟩ rfl (av := [.int r4, .int r5, .int (0 : Int32)]) (b := V 0) (ci := 1) (q0 := 0) rfl rfl rfl (Nat.le_of_ble_eq_true rfl) [0, 1, 2, 3, 4, 5, 6] [] (wr := []) rfl rfl rfl rfl (by decide) dX1_isChain_44 ⟨Nat.le_of_ble_eq_true rfl, Nat.le_of_ble_eq_true rfl⟩ (fun r12 thrown_11 h => ?_)
        refine x_ws (ws' := (wX1 cI cJ cZ cA V cel tint cells_1 near_2 there_3 ways more thrown_11)) rfl ?_
        exact hE r12 (cells_1, near_2, there_3, thrown_11) _ _ h.2 h.1 dX1_isChain_47
      · have h := h.2 c9
        refine x_keep [false, false] rfl ?_
        refine x_iconst (v := (1)) (pc := 39) K dX1_isChain_39 (by decide) ?_
        refine x_goto (pc := 40) K dX1_isChain_40 (tgt := 44) (by decide) ?_
        refine x_callVz (pc := 44) (n := 3) K (c_X1_goes l D cI cJ cZ cA V r4 r5 (1 : Int32) cel tint cells_1 near_2 there_3 ways more thrown _ h) rfl rfl gX1_isChain_X1_goes rfl (by decide +kernel) ⟨Nat.le_of_ble_eq_true rfl, Nat.le_of_ble_eq_true rfl⟩ rfl (av := [.int r4, .int r5, .int (1 : Int32)]) (b := V 0) (ci := 1) (q0 := 0) rfl rfl rfl (Nat.le_of_ble_eq_true rfl) [0, 1, 2, 3, 4, 5, 6] [] (wr := []) rfl rfl rfl rfl (by decide) dX1_isChain_44 ⟨Nat.le_of_ble_eq_true rfl, Nat.le_of_ble_eq_true rfl⟩ (fun r14 thrown_13 h => ?_)
        refine x_ws (ws' := (wX1 cI cJ cZ cA V cel tint cells_1 near_2 there_3 ways more thrown_13)) rfl ?_
        exact hE r14 (cells_1, near_2, there_3, thrown_13) _ _ h.2 h.1 dX1_isChain_47
