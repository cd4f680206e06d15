abbrev rm_X1_links : Room := { frames := 9, cells := 0, slots := 0, locals := 160 }
theorem inX1_links : ∀ w ∈ u_ws RX1 TX1 8, w ∈ wsX1_links := by decide +kernel
theorem kX1_links_0 : Cond.fieldLink RX1 13 "FourTintsModel" "tint" "[I" ∈ wsX1_links := by decide +kernel
theorem kX1_links_1 : Cond.fieldLink RX1 20 "FourTintsModel" "near" "[I" ∈ wsX1_links := by decide +kernel
def q_X1_links_L5 (u1 : Int32) (u2 : Int32) (tint : Nat → Int32) (there : Int32) (P0 : Int32 → Prop) : Nat → Int32 → Int32 → Prop
  | 0, _, _ => False
  | n + 1, x3, x4 => (((10 : Int32) ≤ x4 → P0 x3) ∧ (¬ (10 : Int32) ≤ x4 → q_X1_isThere x4 there (fun (r1 : Int32) => ((r1 = (0 : Int32) → xl (x3 ||| (0 : Int32)) (fun y2 => q_X1_links_L5 u1 u2 tint there P0 n y2 (x4 + (1 : Int32)))) ∧ (¬ r1 = (0 : Int32) → xin x4 10 = true ∧ (((tint x4.toNatClampNeg) = u2 → xl (x3 ||| ((1 : Int32) <<< (x4 &&& 31))) (fun y3 => q_X1_links_L5 u1 u2 tint there P0 n y3 (x4 + (1 : Int32)))) ∧ (¬ (tint x4.toNatClampNeg) = u2 → xin x4 10 = true ∧ xin u1 10 = true ∧ ((¬ (tint x4.toNatClampNeg) = (tint u1.toNatClampNeg) → xl (x3 ||| (0 : Int32)) (fun y4 => q_X1_links_L5 u1 u2 tint there P0 n y4 (x4 + (1 : Int32)))) ∧ ((tint x4.toNatClampNeg) = (tint u1.toNatClampNeg) → xl (x3 ||| ((1 : Int32) <<< (x4 &&& 31))) (fun y5 => q_X1_links_L5 u1 u2 tint there P0 n y5 (x4 + (1 : Int32))))))))))))
def q_X1_links_L87 (u3 : Int32) (u4 : Int32) (near : Nat → Int32) (P0 : Int32 → Prop) : Nat → Int32 → Int32 → Prop
  | 0, _, _ => False
  | n + 1, x5, x6 => (((10 : Int32) ≤ x6 → P0 x5) ∧ (¬ (10 : Int32) ≤ x6 → ((¬ ((u4 >>> (x6 &&& 31)) &&& (1 : Int32)) = (1 : Int32) → xl (x5 ||| (0 : Int32)) (fun y9 => q_X1_links_L87 u3 u4 near P0 n y9 (x6 + (1 : Int32)))) ∧ (((u4 >>> (x6 &&& 31)) &&& (1 : Int32)) = (1 : Int32) → xin x6 10 = true ∧ xl (x5 ||| ((near x6.toNatClampNeg) &&& u3)) (fun y10 => q_X1_links_L87 u3 u4 near P0 n y10 (x6 + (1 : Int32)))))))
def q_X1_links_L73 (u3 : Int32) (near : Nat → Int32) (P0 : Int32 → Prop) : Nat → Int32 → Int32 → Prop
  | 0, _, _ => False
  | n + 1, x4, x5 => ((x5 = x4 → P0 x5) ∧ (¬ x5 = x4 → (∃ n11 : Nat, q_X1_links_L87 u3 x5 near (fun (v12 : Int32) => q_X1_links_L73 u3 near P0 n x5 v12) n11 x5 (0 : Int32))))
def q_X1_links (p1 : Int32) (p2 : Int32) (tint : Nat → Int32) (near : Nat → Int32) (there : Int32) (P : Int32 → Prop) : Prop := (∃ n6 : Nat, q_X1_links_L5 p1 p2 tint there (fun (v7 : Int32) => xl ((1 : Int32) <<< (p1 &&& 31)) (fun y8 => (∃ n13 : Nat, q_X1_links_L73 v7 near (fun (v14 : Int32) => P v14) n13 (0 : Int32) y8))) n6 (0 : Int32) (0 : Int32))
set_option maxHeartbeats 4000000 in
set_option maxRecDepth 100000 in
theorem w_X1_links_L5 {X : xC} {l : Launch} {D : va_G} {cI cJ cZ cA : ClassId} {V : Nat → Nat} (K : xk X l rm_X1_links D vwCl (xtys cI cJ cZ cA) cX1_links RX1 wsX1_links 7) (u1 : Int32) (u2 : Int32) (cel : Nat → Int32) (tint : Nat → Int32) (cells : Nat → Int64) (near : Nat → Int32) (there : Int32) (ways : Nat → Int64) (more : Nat → Int64) (thrown : Int32) (P0 : Int32 → Prop) : ∀ (n : Nat) (x3 : Int32) (x4 : Int32), q_X1_links_L5 u1 u2 tint there P0 n x3 x4 → (∀ (z0 : Int32), P0 z0 → xw X 0 0 65 [(0, .ref (V 0)), (1, .int u1), (3, .int z0)] [] (wX1 cI cJ cZ cA V cel tint cells near there ways more thrown)) → xw X 0 0 5 [(0, .ref (V 0)), (1, .int u1), (2, .int u2), (3, .int x3), (4, .int x4)] [] (wX1 cI cJ cZ cA V cel tint cells near there ways more thrown) := by
  intro n
  induction n with
  | zero =>
    intro x3 x4 h
    rw [q_X1_links_L5] at h
    exact h.elim
  | succ n ih =>
    intro x3 x4 h k0
    rw [q_X1_links_L5] at h
    refine x_iload (pc := 5) K dX1_links_5 4 rfl ?_
    refine x_bipush (v := (10)) (pc := 7) K dX1_links_7 (by decide) ?_
    refine x_icmp_ge (pc := 9) K dX1_links_9 (tgt := 65) (by decide) (fun c9 => ?_) (fun c9 => ?_)
    · have h := h.1 c9
      refine x_keep [true, true, false, true, false] rfl ?_
      exact k0 x3 h
    · have h := h.2 c9
      refine x_iload_n (pc := 12) K dX1_links_12 3 rfl rfl ?_
      refine x_aload_n (pc := 13) K dX1_links_13 0 rfl rfl ?_
      refine x_iload (pc := 14) K dX1_links_14 4 rfl ?_
      refine x_callVz (pc := 16) (n := 1) K (c_X1_isThere l D cI cJ cZ cA V x4 cel tint cells near there ways more thrown _ h) rfl rfl gX1_links_X1_isThere rfl (by decide +kernel) ⟨Nat.le_of_ble_eq_true rfl, Nat.le_of_ble_eq_true rfl⟩ rfl (av := [.int x4]) (b := V 0) (ci := 1) (q0 := 0) rfl rfl rfl (Nat.le_of_ble_eq_true rfl) [0, 1, 2, 3, 4, 5, 6] [] (wr := []) rfl rfl rfl rfl (by decide) dX1_links_16 ⟨Nat.le_of_ble_eq_true rfl, Nat.le_of_ble_eq_true rfl⟩ (fun r1 u9 h => ?_)
      refine x_ws (ws' := (wX1 cI cJ cZ cA V cel tint cells near there ways more thrown)) rfl ?_
      refine x_if_eq (pc := 19) K dX1_links_19 (tgt := 56) (by decide) (fun c9 => ?_) (fun c9 => ?_)
      · have h := h.1 c9
        refine x_keep [true, true, true, false, true] rfl ?_
        refine x_iconst (v := (0)) (pc := 56) K dX1_links_56 (by decide) ?_
        refine x_ior (pc := 57) K dX1_links_57 ?_
        obtain ⟨y2, ey2, h⟩ := xl_o h
        refine x_topi ey2 ?_
        clear ey2
        refine x_istore_n (lv' := [(0, .ref (V 0)), (1, .int u1), (2, .int u2), (3, .int y2), (4, .int x4)]) (pc := 58) K dX1_links_58 rfl (by decide) rfl ?_
        refine x_iinc (v := x4 + (1 : Int32)) (lv' := [(0, .ref (V 0)), (1, .int u1), (2, .int u2), (3, .int y2), (4, .int (x4 + (1 : Int32)))]) (pc := 59) K dX1_links_59 (k := 4) rfl rfl (by decide) rfl ?_
        refine x_goto (pc := 62) K dX1_links_62 (tgt := 5) (by decide) ?_
        exact ih y2 (x4 + (1 : Int32)) h k0
      · have h := h.2 c9
        refine x_keep [true, true, true, false, true] rfl ?_
        refine x_aload_n (pc := 22) K dX1_links_22 0 rfl rfl ?_
        refine x_get (pc := 23) (ci := 1) (C := RX1) (T := TX1) (N := 8) K (inX1_links) 0 rfl rfl 1 (by decide) kX1_links_0 rfl rfl dX1_links_23 ?_
        refine x_iload (pc := 26) K dX1_links_26 3 rfl ?_
        have g9 := h.1
        replace h := h.2
        refine x_iald (pc := 28) K 2 0 rfl rfl g9 dX1_links_28 ?_
        clear g9
        refine x_iload_n (pc := 29) K dX1_links_29 2 rfl rfl ?_
        refine x_icmp_eq (pc := 30) K dX1_links_30 (tgt := 49) (by decide) (fun c9 => ?_) (fun c9 => ?_)
        · have h := h.1 c9
          refine x_iconst (v := (1)) (pc := 49) K dX1_links_49 (by decide) ?_
          refine x_iload (pc := 50) K dX1_links_50 3 rfl ?_
          refine x_ishl (pc := 52) K dX1_links_52 ?_
          refine x_goto (pc := 53) K dX1_links_53 (tgt := 57) (by decide) ?_
          refine x_ior (pc := 57) K dX1_links_57 ?_
          obtain ⟨y3, ey3, h⟩ := xl_o h
          refine x_topi ey3 ?_
          clear ey3
          refine x_istore_n (lv' := [(0, .ref (V 0)), (1, .int u1), (2, .int u2), (3, .int y3), (4, .int x4)]) (pc := 58) K dX1_links_58 rfl (by decide) rfl ?_
          refine x_iinc (v := x4 + (1 : Int32)) (lv' := [(0, .ref (V 0)), (1, .int u1), (2, .int u2), (3, .int y3), (4, .int (x4 + (1 : Int32)))]) (pc := 59) K dX1_links_59 (k := 4) rfl rfl (by decide) rfl ?_
          refine x_goto (pc := 62) K dX1_links_62 (tgt := 5) (by decide) ?_
          exact ih y3 (x4 + (1 : Int32)) h k0
        · have h := h.2 c9
          refine x_aload_n (pc := 33) K dX1_links_33 0 rfl rfl ?_
          refine x_get (pc := 34) (ci := 1) (C := RX1) (T := TX1) (N := 8) K (inX1_links) 0 rfl rfl 1 (by decide) kX1_links_0 rfl rfl dX1_links_34 ?_
          refine x_iload (pc := 37) K dX1_links_37 3 rfl ?_
          have g9 := h.1
          replace h := h.2
          refine x_iald (pc := 39) K 2 0 rfl rfl g9 dX1_links_39 ?_
          clear g9
          refine x_aload_n (pc := 40) K dX1_links_40 0 rfl rfl ?_
          refine x_get (pc := 41) (ci := 1) (C := RX1) (T := TX1) (N := 8) K (inX1_links) 0 rfl rfl 1 (by decide) kX1_links_0 rfl rfl dX1_links_41 ?_
          refine x_iload_n (pc := 44) K dX1_links_44 1 rfl rfl ?_
          have g9 := h.1
          replace h := h.2
          refine x_iald (pc := 45) K 2 0 rfl rfl g9 dX1_links_45 ?_
          clear g9
          refine x_icmp_ne (pc := 46) K dX1_links_46 (tgt := 56) (by decide) (fun c9 => ?_) (fun c9 => ?_)
          · have h := h.1 c9
            refine x_iconst (v := (0)) (pc := 56) K dX1_links_56 (by decide) ?_
            refine x_ior (pc := 57) K dX1_links_57 ?_
            obtain ⟨y4, ey4, h⟩ := xl_o h
            refine x_topi ey4 ?_
            clear ey4
            refine x_istore_n (lv' := [(0, .ref (V 0)), (1, .int u1), (2, .int u2), (3, .int y4), (4, .int x4)]) (pc := 58) K dX1_links_58 rfl (by decide) rfl ?_
            refine x_iinc (v := x4 + (1 : Int32)) (lv' := [(0, .ref (V 0)), (1, .int u1), (2, .int u2), (3, .int y4), (4, .int (x4 + (1 : Int32)))]) (pc := 59) K dX1_links_59 (k := 4) rfl rfl (by decide) rfl ?_
            refine x_goto (pc := 62) K dX1_links_62 (tgt := 5) (by decide) ?_
            exact ih y4 (x4 + (1 : Int32)) h k0
          · have h := h.2 c9
            refine x_iconst (v := (1)) (pc := 49) K dX1_links_49 (by decide) ?_
            refine x_iload (pc := 50) K dX1_links_50 3 rfl ?_
            refine x_ishl (pc := 52) K dX1_links_52 ?_
            refine x_goto (pc := 53) K dX1_links_53 (tgt := 57) (by decide) ?_
            refine x_ior (pc := 57) K dX1_links_57 ?_
            obtain ⟨y5, ey5, h⟩ := xl_o h
            refine x_topi ey5 ?_
            clear ey5
            refine x_istore_n (lv' := [(0, .ref (V 0)), (1, .int u1), (2, .int u2), (3, .int y5), (4, .int x4)]) (pc := 58) K dX1_links_58 rfl (by decide) rfl ?_
            refine x_iinc (v := x4 + (1 : Int32)) (lv' := [(0, .ref (V 0)), (1, .int u1), (2, .int u2), (3, .int y5), (4, .int (x4 + (1 : Int32)))]) (pc := 59) K dX1_links_59 (k := 4) rfl rfl (by decide) rfl ?_
            refine x_goto (pc := 62) K dX1_links_62 (tgt := 5) (by decide) ?_
            exact ih y5 (x4 + (1 : Int32)) h k0
set_option maxHeartbeats 4000000 in
set_option maxRecDepth 100000 in
theorem w_X1_links_L87 {X : xC} {l : Launch} {D : va_G} {cI cJ cZ cA : ClassId} {V : Nat → Nat} (K : xk X l rm_X1_links D vwCl (xtys cI cJ cZ cA) cX1_links RX1 wsX1_links 7) (u3 : Int32) (u4 : Int32) (cel : Nat → Int32) (tint : Nat → Int32) (cells : Nat → Int64) (near : Nat → Int32) (there : Int32) (ways : Nat → Int64) (more : Nat → Int64) (thrown : Int32) (P0 : Int32 → Prop) : ∀ (n : Nat) (x5 : Int32) (x6 : Int32), q_X1_links_L87 u3 u4 near P0 n x5 x6 → (∀ (z0 : Int32), P0 z0 → xw X 0 0 129 [(0, .ref (V 0)), (3, .int u3), (4, .int u4), (5, .int z0)] [] (wX1 cI cJ cZ cA V cel tint cells near there ways more thrown)) → xw X 0 0 87 [(0, .ref (V 0)), (3, .int u3), (4, .int u4), (5, .int x5), (6, .int x6)] [] (wX1 cI cJ cZ cA V cel tint cells near there ways more thrown) := by
  intro n
  induction n with
  | zero =>
    intro x5 x6 h
    rw [q_X1_links_L87] at h
    exact h.elim
  | succ n ih =>
    intro x5 x6 h k0
    rw [q_X1_links_L87] at h
    refine x_iload (pc := 87) K dX1_links_87 4 rfl ?_
    refine x_bipush (v := (10)) (pc := 89) K dX1_links_89 (by decide) ?_
    refine x_icmp_ge (pc := 91) K dX1_links_91 (tgt := 129) (by decide) (fun c9 => ?_) (fun c9 => ?_)
    · have h := h.1 c9
      refine x_keep [true, true, true, true, false] rfl ?_
      exact k0 x5 h
    · have h := h.2 c9
      refine x_iload (pc := 94) K dX1_links_94 3 rfl ?_
      refine x_iload (pc := 96) K dX1_links_96 2 rfl ?_
      refine x_iload (pc := 98) K dX1_links_98 4 rfl ?_
      refine x_ishr (pc := 100) K dX1_links_100 ?_
      refine x_iconst (v := (1)) (pc := 101) K dX1_links_101 (by decide) ?_
      refine x_iand (pc := 102) K dX1_links_102 ?_
      refine x_iconst (v := (1)) (pc := 103) K dX1_links_103 (by decide) ?_
      refine x_icmp_ne (pc := 104) K dX1_links_104 (tgt := 119) (by decide) (fun c9 => ?_) (fun c9 => ?_)
      · have h := h.1 c9
        refine x_keep [true, true, true, false, true] rfl ?_
        refine x_iconst (v := (0)) (pc := 119) K dX1_links_119 (by decide) ?_
        refine x_ior (pc := 120) K dX1_links_120 ?_
        obtain ⟨y9, ey9, h⟩ := xl_o h
        refine x_topi ey9 ?_
        clear ey9
        refine x_istore (lv' := [(0, .ref (V 0)), (3, .int u3), (4, .int u4), (5, .int y9), (6, .int x6)]) (pc := 121) K dX1_links_121 (by decide) rfl ?_
        refine x_iinc (v := x6 + (1 : Int32)) (lv' := [(0, .ref (V 0)), (3, .int u3), (4, .int u4), (5, .int y9), (6, .int (x6 + (1 : Int32)))]) (pc := 123) K dX1_links_123 (k := 4) rfl rfl (by decide) rfl ?_
        refine x_goto (pc := 126) K dX1_links_126 (tgt := 87) (by decide) ?_
        exact ih y9 (x6 + (1 : Int32)) h k0
      · have h := h.2 c9
        refine x_keep [true, true, true, false, true] rfl ?_
        refine x_aload_n (pc := 107) K dX1_links_107 0 rfl rfl ?_
        refine x_get (pc := 108) (ci := 1) (C := RX1) (T := TX1) (N := 8) K (inX1_links) 0 rfl rfl 3 (by decide) kX1_links_1 rfl rfl dX1_links_108 ?_
        refine x_iload (pc := 111) K dX1_links_111 3 rfl ?_
        have g9 := h.1
        replace h := h.2
        refine x_iald (pc := 113) K 4 0 rfl rfl g9 dX1_links_113 ?_
        clear g9
        refine x_iload_n (pc := 114) K dX1_links_114 1 rfl rfl ?_
        refine x_iand (pc := 115) K dX1_links_115 ?_
        refine x_goto (pc := 116) K dX1_links_116 (tgt := 120) (by decide) ?_
        refine x_ior (pc := 120) K dX1_links_120 ?_
        obtain ⟨y10, ey10, h⟩ := xl_o h
        refine x_topi ey10 ?_
        clear ey10
        refine x_istore (lv' := [(0, .ref (V 0)), (3, .int u3), (4, .int u4), (5, .int y10), (6, .int x6)]) (pc := 121) K dX1_links_121 (by decide) rfl ?_
        refine x_iinc (v := x6 + (1 : Int32)) (lv' := [(0, .ref (V 0)), (3, .int u3), (4, .int u4), (5, .int y10), (6, .int (x6 + (1 : Int32)))]) (pc := 123) K dX1_links_123 (k := 4) rfl rfl (by decide) rfl ?_
        refine x_goto (pc := 126) K dX1_links_126 (tgt := 87) (by decide) ?_
        exact ih y10 (x6 + (1 : Int32)) h k0
set_option maxHeartbeats 4000000 in
set_option maxRecDepth 100000 in
theorem w_X1_links_L73 {X : xC} {l : Launch} {D : va_G} {cI cJ cZ cA : ClassId} {V : Nat → Nat} (K : xk X l rm_X1_links D vwCl (xtys cI cJ cZ cA) cX1_links RX1 wsX1_links 7) (u3 : Int32) (cel : Nat → Int32) (tint : Nat → Int32) (cells : Nat → Int64) (near : Nat → Int32) (there : Int32) (ways : Nat → Int64) (more : Nat → Int64) (thrown : Int32) (P0 : Int32 → Prop) : ∀ (n : Nat) (x4 : Int32) (x5 : Int32), q_X1_links_L73 u3 near P0 n x4 x5 → (∀ (z0 : Int32), P0 z0 → xw X 0 0 132 [(5, .int z0)] [] (wX1 cI cJ cZ cA V cel tint cells near there ways more thrown)) → xw X 0 0 73 [(0, .ref (V 0)), (3, .int u3), (4, .int x4), (5, .int x5)] [] (wX1 cI cJ cZ cA V cel tint cells near there ways more thrown) := by
  intro n
  induction n with
  | zero =>
    intro x4 x5 h
    rw [q_X1_links_L73] at h
    exact h.elim
  | succ n ih =>
    intro x4 x5 h k0
    rw [q_X1_links_L73] at h
    refine x_iload (pc := 73) K dX1_links_73 3 rfl ?_
    refine x_iload (pc := 75) K dX1_links_75 2 rfl ?_
    refine x_icmp_eq (pc := 77) K dX1_links_77 (tgt := 132) (by decide) (fun c9 => ?_) (fun c9 => ?_)
    · have h := h.1 c9
      refine x_keep [false, false, false, true] rfl ?_
      exact k0 x5 h
    · have h := h.2 c9
      refine x_keep [true, true, false, true] rfl ?_
      refine x_iload (pc := 80) K dX1_links_80 2 rfl ?_
      refine x_istore (lv' := [(0, .ref (V 0)), (3, .int u3), (4, .int x5), (5, .int x5)]) (pc := 82) K dX1_links_82 (by decide) rfl ?_
      refine x_iconst (v := (0)) (pc := 84) K dX1_links_84 (by decide) ?_
      refine x_istore (lv' := [(0, .ref (V 0)), (3, .int u3), (4, .int x5), (5, .int x5), (6, .int (0 : Int32))]) (pc := 85) K dX1_links_85 (by decide) rfl ?_
      obtain ⟨n11, h⟩ := h
      refine w_X1_links_L87 K u3 x5 cel tint cells near there ways more thrown _ n11 x5 (0 : Int32) h (fun v12 h => ?_)
      refine x_goto (pc := 129) K dX1_links_129 (tgt := 73) (by decide) ?_
      exact ih x5 v12 h k0
set_option maxHeartbeats 4000000 in
set_option maxRecDepth 100000 in
theorem c_X1_links (l : Launch) (D : va_G) (cI cJ cZ cA : ClassId) (V : Nat → Nat) (p1 : Int32) (p2 : Int32) (cel : Nat → Int32) (tint : Nat → Int32) (cells : Nat → Int64) (near : Nat → Int32) (there : Int32) (ways : Nat → Int64) (more : Nat → Int64) (thrown : Int32) (P : Int32 → Prop) (h : q_X1_links p1 p2 tint near there P) : xMi l yX1_links wsX1_links rm_X1_links D vwCl (xtys cI cJ cZ cA) (wX1 cI cJ cZ cA V cel tint cells near there ways more thrown) [.ref (V 0), .int p1, .int p2] (σ := Unit) (fun _ => (wX1 cI cJ cZ cA V cel tint cells near there ways more thrown)) (fun r _ => P r) := by
  refine xMi_of (cc := cX1_links) (maxL := 7) (by decide) rfl (Nat.le_of_ble_eq_true rfl) ?_
  intro X K hE
  have K : xk X l rm_X1_links D vwCl (xtys cI cJ cZ cA) cX1_links RX1 wsX1_links 7 := K
  unfold q_X1_links at h
  refine x_iconst (v := (0)) (pc := 0) K dX1_links_0 (by decide) ?_
  refine x_istore_n (lv' := [(0, .ref (V 0)), (1, .int p1), (2, .int p2), (3, .int (0 : Int32))]) (pc := 1) K dX1_links_1 rfl (by decide) rfl ?_
  refine x_iconst (v := (0)) (pc := 2) K dX1_links_2 (by decide) ?_
  refine x_istore (lv' := [(0, .ref (V 0)), (1, .int p1), (2, .int p2), (3, .int (0 : Int32)), (4, .int (0 : Int32))]) (pc := 3) K dX1_links_3 (by decide) rfl ?_
  obtain ⟨n6, h⟩ := h
  refine w_X1_links_L5 K p1 p2 cel tint cells near there ways more thrown _ n6 (0 : Int32) (0 : Int32) h (fun v7 h => ?_)
  refine x_iconst (v := (0)) (pc := 65) K dX1_links_65 (by decide) ?_
  refine x_istore (lv' := [(0, .ref (V 0)), (1, .int p1), (3, .int v7), (4, .int (0 : Int32))]) (pc := 66) K dX1_links_66 (by decide) rfl ?_
  refine x_iconst (v := (1)) (pc := 68) K dX1_links_68 (by decide) ?_
  refine x_iload_n (pc := 69) K dX1_links_69 1 rfl rfl ?_
  refine x_ishl (pc := 70) K dX1_links_70 ?_
  obtain ⟨y8, ey8, h⟩ := xl_o h
  refine x_topi ey8 ?_
  clear ey8
  refine x_istore (lv' := [(0, .ref (V 0)), (1, .int p1), (3, .int v7), (4, .int (0 : Int32)), (5, .int y8)]) (pc := 71) K dX1_links_71 (by decide) rfl ?_
  refine x_keep [true, false, true, true, true] rfl ?_
  obtain ⟨n13, h⟩ := h
  refine w_X1_links_L73 K v7 cel tint cells near there ways more thrown _ n13 (0 : Int32) y8 h (fun v14 h => ?_)
  refine x_iload (pc := 132) K dX1_links_132 0 rfl ?_
  exact hE v14 () _ _ h dX1_links_134
abbrev rm_X1_chain : Room := { frames := 11, cells := 0, slots := 0, locals := 240 }
def q_X1_chain (p1 : Int32) (p2 : Int32) (cel : Nat → Int32) (tint : Nat → Int32) (cells : Nat → Int64) (near : Nat → Int32) (P : Int32 → (Nat → Int64) → (Nat → Int32) → Int32 → Int32 → Prop) : Prop := q_X1_isChain p1 p2 cel tint cells near (fun (r5 : Int32) (cells_1 : Nat → Int64) (near_2 : Nat → Int32) (there_3 : Int32) (thrown_4 : Int32) => ((r5 = (0 : Int32) → P (0 : Int32) cells_1 near_2 there_3 thrown_4) ∧ (¬ r5 = (0 : Int32) → q_X1_links p1 p2 tint near_2 there_3 (fun (r6 : Int32) => q_X1_bits r6.toInt64 (fun (r7 : Int32) => P r7 cells_1 near_2 there_3 thrown_4)))))
set_option maxHeartbeats 4000000 in
set_option maxRecDepth 100000 in
theorem c_X1_chain (l : Launch) (D : va_G) (cI cJ cZ cA : ClassId) (V : Nat → Nat) (p1 : Int32) (p2 : Int32) (cel : Nat → Int32) (tint : Nat → Int32) (cells : Nat → Int64) (near : Nat → Int32) (there : Int32) (ways : Nat → Int64) (more : Nat → Int64) (thrown : Int32) (P : Int32 → (Nat → Int64) → (Nat → Int32) → Int32 → Int32 → Prop) (h : q_X1_chain p1 p2 cel tint cells near P) : xMi l yX1_chain wsX1_chain rm_X1_chain D vwCl (xtys cI cJ cZ cA) (wX1 cI cJ cZ cA V cel tint cells near there ways more thrown) [.ref (V 0), .int p1, .int p2] (σ := (Nat → Int64) × (Nat → Int32) × Int32 × Int32) (fun u => (wX1 cI cJ cZ cA V cel tint u.1 u.2.1 u.2.2.1 ways more u.2.2.2)) (fun r u => P r u.1 u.2.1 u.2.2.1 u.2.2.2) := by
  refine xMi_of (cc := cX1_chain) (maxL := 3) (by decide) rfl (Nat.le_of_ble_eq_true rfl) ?_
  intro X K hE
  have K : xk X l rm_X1_chain D vwCl (xtys cI cJ cZ cA) cX1_chain RX1 wsX1_chain 3 := K
  unfold q_X1_chain at h
  refine x_aload_n (pc := 0) K dX1_chain_0 0 rfl rfl ?_
  refine x_iload_n (pc := 1) K dX1_chain_1 1 rfl rfl ?_
  refine x_iload_n (pc := 2) K dX1_chain_2 2 rfl rfl ?_
  refine x_callVz (pc := 3) (n := 2) K (c_X1_isChain l D cI cJ cZ cA V p1 p2 cel tint cells near there ways more thrown _ h) rfl rfl gX1_chain_X1_isChain rfl (by decide +kernel) ⟨Nat.le_of_ble_eq_true rfl, Nat.le_of_ble_eq_true rfl⟩ rfl (av := [.int p1, .int p2]) (b := V 0) (ci := 1) (q0 := 0) rfl rfl rfl (Nat.le_of_ble_eq_true rfl) [0, 1, 2, 3, 4, 5, 6] [] (wr := []) rfl rfl rfl rfl (by decide) dX1_chain_3 ⟨Nat.le_of_ble_eq_true rfl, Nat.le_of_ble_eq_true rfl⟩ (fun r5 u9 h => ?_)
  obtain ⟨cells_1, near_2, there_3, thrown_4⟩ := u9
  refine x_ws (ws' := (wX1 cI cJ cZ cA V cel tint cells_1 near_2 there_3 ways more thrown_4)) rfl ?_
  refine x_if_eq (pc := 6) K dX1_chain_6 (tgt := 22) (by decide) (fun c9 => ?_) (fun c9 => ?_)
  · have h := h.1 c9
    refine x_keep [false, false, false] rfl ?_
    refine x_iconst (v := (0)) (pc := 22) K dX1_chain_22 (by decide) ?_
    exact hE (0 : Int32) (cells_1, near_2, there_3, thrown_4) _ _ h dX1_chain_23
  · have h := h.2 c9
    refine x_aload_n (pc := 9) K dX1_chain_9 0 rfl rfl ?_
    refine x_iload_n (pc := 10) K dX1_chain_10 1 rfl rfl ?_
    refine x_iload_n (pc := 11) K dX1_chain_11 2 rfl rfl ?_
    refine x_callVi (pc := 12) (n := 2) K (c_X1_links l D cI cJ cZ cA V p1 p2 cel tint cells_1 near_2 there_3 ways more thrown_4 _ h) rfl rfl gX1_chain_X1_links rfl (by decide +kernel) ⟨Nat.le_of_ble_eq_true rfl, Nat.le_of_ble_eq_true rfl⟩ rfl (av := [.int p1, .int p2]) (b := V 0) (ci := 1) (q0 := 0) rfl rfl rfl (Nat.le_of_ble_eq_true rfl) [0, 1, 2, 3, 4, 5, 6] [] (wr := []) rfl rfl rfl rfl (by decide) dX1_chain_12 ⟨Nat.le_of_ble_eq_true rfl, Nat.le_of_ble_eq_true rfl⟩ (fun r6 u9 h => ?_)
    refine x_ws (ws' := (wX1 cI cJ cZ cA V cel tint cells_1 near_2 there_3 ways more thrown_4)) rfl ?_
    refine x_i2l (pc := 15) K dX1_chain_15 ?_
    refine x_pcallSi (pc := 16) (n := 1) K (c_X1_bits l D cI cJ cZ cA r6.toInt64 _ h) rfl rfl gX1_chain_X1_bits rfl (by decide +kernel) ⟨Nat.le_of_ble_eq_true rfl, Nat.le_of_ble_eq_true rfl⟩ rfl (av := [.long r6.toInt64]) rfl (Nat.le_of_ble_eq_true rfl) dX1_chain_16 ⟨Nat.le_of_ble_eq_true rfl, Nat.le_of_ble_eq_true rfl⟩ (fun r7 u9 h => ?_)
    refine x_goto (pc := 19) K dX1_chain_19 (tgt := 23) (by decide) ?_
    refine x_keep [false, false, false] rfl ?_
    exact hE r7 (cells_1, near_2, there_3, thrown_4) _ _ h dX1_chain_23
abbrev rm_X1_exchange : Room := { frames := 11, cells := 0, slots := 0, locals := 240 }
theorem inX1_exchange : ∀ w ∈ u_ws RX1 TX1 8, w ∈ wsX1_exchange := by decide +kernel
theorem kX1_exchange_0 : Cond.fieldLink RX1 13 "FourTintsModel" "tint" "[I" ∈ wsX1_exchange := by decide +kernel
def q_X1_exchange_L29 (u2 : Int32) (u3 : Int32) (u4 : Int32) (P0 : (Nat → Int32) → Prop) : Nat → Int32 → (Nat → Int32) → Prop
  | 0, _, _ => False
  | n + 1, x5, tint => (((10 : Int32) ≤ x5 → P0 tint) ∧ (¬ (10 : Int32) ≤ x5 → ((¬ ((u3 >>> (x5 &&& 31)) &&& (1 : Int32)) = (1 : Int32) → q_X1_exchange_L29 u2 u3 u4 P0 n (x5 + (1 : Int32)) tint) ∧ (((u3 >>> (x5 &&& 31)) &&& (1 : Int32)) = (1 : Int32) → xin x5 10 = true ∧ ((¬ (tint x5.toNatClampNeg) = u4 → xin x5 10 = true ∧ q_X1_exchange_L29 u2 u3 u4 P0 n (x5 + (1 : Int32)) (upd tint x5.toNatClampNeg u4)) ∧ ((tint x5.toNatClampNeg) = u4 → xin x5 10 = true ∧ q_X1_exchange_L29 u2 u3 u4 P0 n (x5 + (1 : Int32)) (upd tint x5.toNatClampNeg u2)))))))
def q_X1_exchange (p1 : Int32) (p2 : Int32) (cel : Nat → Int32) (tint : Nat → Int32) (cells : Nat → Int64) (near : Nat → Int32) (P : Int32 → (Nat → Int32) → (Nat → Int64) → (Nat → Int32) → Int32 → Int32 → Prop) : Prop := q_X1_isChain p1 p2 cel tint cells near (fun (r5 : Int32) (cells_1 : Nat → Int64) (near_2 : Nat → Int32) (there_3 : Int32) (thrown_4 : Int32) => ((¬ r5 = (0 : Int32) → q_X1_links p1 p2 tint near_2 there_3 (fun (r6 : Int32) => xin p1 10 = true ∧ xl (tint p1.toNatClampNeg) (fun y7 => (∃ n10 : Nat, q_X1_exchange_L29 p2 r6 y7 (fun (v11 : Nat → Int32) => ((¬ y7 = p2 → q_X1_bits r6.toInt64 (fun (r12 : Int32) => P r12 v11 cells_1 near_2 there_3 thrown_4)) ∧ (y7 = p2 → P (0 : Int32) v11 cells_1 near_2 there_3 thrown_4))) n10 (0 : Int32) tint)))) ∧ (r5 = (0 : Int32) → P (0 : Int32) tint cells_1 near_2 there_3 thrown_4)))
set_option maxHeartbeats 4000000 in
set_option maxRecDepth 100000 in
theorem w_X1_exchange_L29 {X : xC} {l : Launch} {D : va_G} {cI cJ cZ cA : ClassId} {V : Nat → Nat} (K : xk X l rm_X1_exchange D vwCl (xtys cI cJ cZ cA) cX1_exchange RX1 wsX1_exchange 6) (u2 : Int32) (u3 : Int32) (u4 : Int32) (cel : Nat → Int32) (cells : Nat → Int64) (near : Nat → Int32) (there : Int32) (ways : Nat → Int64) (more : Nat → Int64) (thrown : Int32) (P0 : (Nat → Int32) → Prop) : ∀ (n : Nat) (x5 : Int32) (tint : Nat → Int32), q_X1_exchange_L29 u2 u3 u4 P0 n x5 tint → (∀ (z0 : Nat → Int32), P0 z0 → xw X 0 0 77 [(2, .int u2), (3, .int u3), (4, .int u4)] [] (wX1 cI cJ cZ cA V cel z0 cells near there ways more thrown)) → xw X 0 0 29 [(0, .ref (V 0)), (2, .int u2), (3, .int u3), (4, .int u4), (5, .int x5)] [] (wX1 cI cJ cZ cA V cel tint cells near there ways more thrown) := by
  intro n
  induction n with
  | zero =>
    intro x5 tint h
    rw [q_X1_exchange_L29] at h
    exact h.elim
  | succ n ih =>
    intro x5 tint h k0
    rw [q_X1_exchange_L29] at h
    refine x_iload (pc := 29) K dX1_exchange_29 4 rfl ?_
    refine x_bipush (v := (10)) (pc := 31) K dX1_exchange_31 (by decide) ?_
    refine x_icmp_ge (pc := 33) K dX1_exchange_33 (tgt := 77) (by decide) (fun c9 => ?_) (fun c9 => ?_)
    · have h := h.1 c9
      refine x_keep [false, true, true, true, false] rfl ?_
      exact k0 tint h
    · have h := h.2 c9
      refine x_iload_n (pc := 36) K dX1_exchange_36 2 rfl rfl ?_
      refine x_iload (pc := 37) K dX1_exchange_37 4 rfl ?_
      refine x_ishr (pc := 39) K dX1_exchange_39 ?_
      refine x_iconst (v := (1)) (pc := 40) K dX1_exchange_40 (by decide) ?_
      refine x_iand (pc := 41) K dX1_exchange_41 ?_
      refine x_iconst (v := (1)) (pc := 42) K dX1_exchange_42 (by decide) ?_
      refine x_icmp_ne (pc := 43) K dX1_exchange_43 (tgt := 71) (by decide) (fun c9 => ?_) (fun c9 => ?_)
      · have h := h.1 c9
        refine x_iinc (v := x5 + (1 : Int32)) (lv' := [(0, .ref (V 0)), (2, .int u2), (3, .int u3), (4, .int u4), (5, .int (x5 + (1 : Int32)))]) (pc := 71) K dX1_exchange_71 (k := 4) rfl rfl (by decide) rfl ?_
        refine x_goto (pc := 74) K dX1_exchange_74 (tgt := 29) (by decide) ?_
        exact ih (x5 + (1 : Int32)) tint h k0
      · have h := h.2 c9
        refine x_aload_n (pc := 46) K dX1_exchange_46 0 rfl rfl ?_
        refine x_get (pc := 47) (ci := 1) (C := RX1) (T := TX1) (N := 8) K (inX1_exchange) 0 rfl rfl 1 (by decide) kX1_exchange_0 rfl rfl dX1_exchange_47 ?_
        refine x_iload (pc := 50) K dX1_exchange_50 4 rfl ?_
        refine x_aload_n (pc := 52) K dX1_exchange_52 0 rfl rfl ?_
        refine x_get (pc := 53) (ci := 1) (C := RX1) (T := TX1) (N := 8) K (inX1_exchange) 0 rfl rfl 1 (by decide) kX1_exchange_0 rfl rfl dX1_exchange_53 ?_
        refine x_iload (pc := 56) K dX1_exchange_56 4 rfl ?_
        have g9 := h.1
        replace h := h.2
        refine x_iald (pc := 58) K 2 0 rfl rfl g9 dX1_exchange_58 ?_
        clear g9
        refine x_iload (pc := 59) K dX1_exchange_59 3 rfl ?_
        refine x_icmp_ne (pc := 61) K dX1_exchange_61 (tgt := 68) (by decide) (fun c9 => ?_) (fun c9 => ?_)
        · have h := h.1 c9
          refine x_iload (pc := 68) K dX1_exchange_68 3 rfl ?_
          have g9 := h.1
          replace h := h.2
          refine x_iast (ws' := (wX1 cI cJ cZ cA V cel (upd tint x5.toNatClampNeg u4) cells near there ways more thrown)) (pc := 70) K 2 0 rfl rfl rfl g9 dX1_exchange_70 ?_
          clear g9
          refine x_iinc (v := x5 + (1 : Int32)) (lv' := [(0, .ref (V 0)), (2, .int u2), (3, .int u3), (4, .int u4), (5, .int (x5 + (1 : Int32)))]) (pc := 71) K dX1_exchange_71 (k := 4) rfl rfl (by decide) rfl ?_
          refine x_goto (pc := 74) K dX1_exchange_74 (tgt := 29) (by decide) ?_
          exact ih (x5 + (1 : Int32)) (upd tint x5.toNatClampNeg u4) h k0
        · have h := h.2 c9
          refine x_iload_n (pc := 64) K dX1_exchange_64 1 rfl rfl ?_
          refine x_goto (pc := 65) K dX1_exchange_65 (tgt := 70) (by decide) ?_
          have g9 := h.1
          replace h := h.2
          refine x_iast (ws' := (wX1 cI cJ cZ cA V cel (upd tint x5.toNatClampNeg u2) cells near there ways more thrown)) (pc := 70) K 2 0 rfl rfl rfl g9 dX1_exchange_70 ?_
          clear g9
          refine x_iinc (v := x5 + (1 : Int32)) (lv' := [(0, .ref (V 0)), (2, .int u2), (3, .int u3), (4, .int u4), (5, .int (x5 + (1 : Int32)))]) (pc := 71) K dX1_exchange_71 (k := 4) rfl rfl (by decide) rfl ?_
          refine x_goto (pc := 74) K dX1_exchange_74 (tgt := 29) (by decide) ?_
          exact ih (x5 + (1 : Int32)) (upd tint x5.toNatClampNeg u2) h k0
set_option maxHeartbeats 4000000 in
set_option maxRecDepth 100000 in
theorem c_X1_exchange (l : Launch) (D : va_G) (cI cJ cZ cA : ClassId) (V : Nat → Nat) (p1 : Int32) (p2 : Int32) (cel : Nat → Int32) (tint : Nat → Int32) (cells : Nat → Int64) (near : Nat → Int32) (there : Int32) (ways : Nat → Int64) (more : Nat → Int64) (thrown : Int32) (P : Int32 → (Nat → Int32) → (Nat → Int64) → (Nat → Int32) → Int32 → Int32 → Prop) (h : q_X1_exchange p1 p2 cel tint cells near P) : xMi l yX1_exchange wsX1_exchange rm_X1_exchange D vwCl (xtys cI cJ cZ cA) (wX1 cI cJ cZ cA V cel tint cells near there ways more thrown) [.ref (V 0), .int p1, .int p2] (σ := (Nat → Int32) × (Nat → Int64) × (Nat → Int32) × Int32 × Int32) (fun u => (wX1 cI cJ cZ cA V cel u.1 u.2.1 u.2.2.1 u.2.2.2.1 ways more u.2.2.2.2)) (fun r u => P r u.1 u.2.1 u.2.2.1 u.2.2.2.1 u.2.2.2.2) := by
  refine xMi_of (cc := cX1_exchange) (maxL := 6) (by decide) rfl (Nat.le_of_ble_eq_true rfl) ?_
  intro X K hE
  have K : xk X l rm_X1_exchange D vwCl (xtys cI cJ cZ cA) cX1_exchange RX1 wsX1_exchange 6 := K
  unfold q_X1_exchange at h
  refine x_aload_n (pc := 0) K dX1_exchange_0 0 rfl rfl ?_
  refine x_iload_n (pc := 1) K dX1_exchange_1 1 rfl rfl ?_
  refine x_iload_n (pc := 2) K dX1_exchange_2 2 rfl rfl ?_
  refine x_callVz (pc := 3) (n := 2) K (c_X1_isChain l D cI cJ cZ cA V p1 p2 cel tint cells near there ways more thrown _ h) rfl rfl gX1_exchange_X1_isChain rfl (by decide +kernel) ⟨Nat.le_of_ble_eq_true rfl, Nat.le_of_ble_eq_true rfl⟩ rfl (av := [.int p1, .int p2]) (b := V 0) (ci := 1) (q0 := 0) rfl rfl rfl (Nat.le_of_ble_eq_true rfl) [0, 1, 2, 3, 4, 5, 6] [] (wr := []) rfl rfl rfl rfl (by decide) dX1_exchange_3 ⟨Nat.le_of_ble_eq_true rfl, Nat.le_of_ble_eq_true rfl⟩ (fun r5 u9 h => ?_)
  obtain ⟨cells_1, near_2, there_3, thrown_4⟩ := u9
  refine x_ws (ws' := (wX1 cI cJ cZ cA V cel tint cells_1 near_2 there_3 ways more thrown_4)) rfl ?_
  refine x_if_ne (pc := 6) K dX1_exchange_6 (tgt := 11) (by decide) (fun c9 => ?_) (fun c9 => ?_)
  · have h := h.1 c9
    refine x_aload_n (pc := 11) K dX1_exchange_11 0 rfl rfl ?_
    refine x_iload_n (pc := 12) K dX1_exchange_12 1 rfl rfl ?_
    refine x_iload_n (pc := 13) K dX1_exchange_13 2 rfl rfl ?_
    refine x_callVi (pc := 14) (n := 2) K (c_X1_links l D cI cJ cZ cA V p1 p2 cel tint cells_1 near_2 there_3 ways more thrown_4 _ h) rfl rfl gX1_exchange_X1_links rfl (by decide +kernel) ⟨Nat.le_of_ble_eq_true rfl, Nat.le_of_ble_eq_true rfl⟩ rfl (av := [.int p1, .int p2]) (b := V 0) (ci := 1) (q0 := 0) rfl rfl rfl (Nat.le_of_ble_eq_true rfl) [0, 1, 2, 3, 4, 5, 6] [] (wr := []) rfl rfl rfl rfl (by decide) dX1_exchange_14 ⟨Nat.le_of_ble_eq_true rfl, Nat.le_of_ble_eq_true rfl⟩ (fun r6 u9 h => ?_)
    refine x_ws (ws' := (wX1 cI cJ cZ cA V cel tint cells_1 near_2 there_3 ways more thrown_4)) rfl ?_
    refine x_istore_n (lv' := [(0, .ref (V 0)), (1, .int p1), (2, .int p2), (3, .int r6)]) (pc := 17) K dX1_exchange_17 rfl (by decide) rfl ?_
    refine x_aload_n (pc := 18) K dX1_exchange_18 0 rfl rfl ?_
    refine x_get (pc := 19) (ci := 1) (C := RX1) (T := TX1) (N := 8) K (inX1_exchange) 0 rfl rfl 1 (by decide) kX1_exchange_0 rfl rfl dX1_exchange_19 ?_
    refine x_iload_n (pc := 22) K dX1_exchange_22 1 rfl rfl ?_
    have g9 := h.1
    replace h := h.2
    refine x_iald (pc := 23) K 2 0 rfl rfl g9 dX1_exchange_23 ?_
    clear g9
    obtain ⟨y7, ey7, h⟩ := xl_o h
    refine x_topi ey7 ?_
    clear ey7
    refine x_istore (lv' := [(0, .ref (V 0)), (1, .int p1), (2, .int p2), (3, .int r6), (4, .int y7)]) (pc := 24) K dX1_exchange_24 (by decide) rfl ?_
    refine x_iconst (v := (0)) (pc := 26) K dX1_exchange_26 (by decide) ?_
    refine x_istore (lv' := [(0, .ref (V 0)), (1, .int p1), (2, .int p2), (3, .int r6), (4, .int y7), (5, .int (0 : Int32))]) (pc := 27) K dX1_exchange_27 (by decide) rfl ?_
    refine x_keep [true, false, true, true, true, true] rfl ?_
    obtain ⟨n10, h⟩ := h
    refine w_X1_exchange_L29 K p2 r6 y7 cel cells_1 near_2 there_3 ways more thrown_4 _ n10 (0 : Int32) tint h (fun v11 h => ?_)
    refine x_iload (pc := 77) K dX1_exchange_77 2 rfl ?_
    refine x_iload_n (pc := 79) K dX1_exchange_79 0 rfl rfl ?_
    refine x_icmp_ne (pc := 80) K dX1_exchange_80 (tgt := 87) (by decide) (fun c9 => ?_) (fun c9 => ?_)
    · have h := h.1 c9
      refine x_keep [false, true, false] rfl ?_
      refine x_iload_n (pc := 87) K dX1_exchange_87 0 rfl rfl ?_
      refine x_i2l (pc := 88) K dX1_exchange_88 ?_
      refine x_pcallSi (pc := 89) (n := 1) K (c_X1_bits l D cI cJ cZ cA r6.toInt64 _ h) rfl rfl gX1_exchange_X1_bits rfl (by decide +kernel) ⟨Nat.le_of_ble_eq_true rfl, Nat.le_of_ble_eq_true rfl⟩ rfl (av := [.long r6.toInt64]) rfl (Nat.le_of_ble_eq_true rfl) dX1_exchange_89 ⟨Nat.le_of_ble_eq_true rfl, Nat.le_of_ble_eq_true rfl⟩ (fun r12 u9 h => ?_)
      refine x_keep [false] rfl ?_
      exact hE r12 (v11, cells_1, near_2, there_3, thrown_4) _ _ h dX1_exchange_92
    · have h := h.2 c9
      refine x_keep [false, false, false] rfl ?_
      refine x_iconst (v := (0)) (pc := 83) K dX1_exchange_83 (by decide) ?_
      refine x_goto (pc := 84) K dX1_exchange_84 (tgt := 92) (by decide) ?_
      exact hE (0 : Int32) (v11, cells_1, near_2, there_3, thrown_4) _ _ h dX1_exchange_92
  · have h := h.2 c9
    refine x_keep [false, false, false] rfl ?_
    refine x_iconst (v := (0)) (pc := 9) K dX1_exchange_9 (by decide) ?_
    exact hE (0 : Int32) (tint, cells_1, near_2, there_3, thrown_4) _ _ h dX1_exchange_10
abbrev rm_X1_tintInOrder : Room := { frames := 10, cells := 0, slots := 0, locals := 200 }
theorem inX1_tintInOrder : ∀ w ∈ u_ws RX1 TX1 8, w ∈ wsX1_tintInOrder := by decide +kernel
theorem kX1_tintInOrder_0 : Cond.fieldLink RX1 29 "FourTintsModel" "thrown" "I" ∈ wsX1_tintInOrder := by decide +kernel
theorem kX1_tintInOrder_1 : Cond.fieldLink RX1 47 "FourTintsModel" "there" "I" ∈ wsX1_tintInOrder := by decide +kernel
theorem kX1_tintInOrder_2 : Cond.fieldLink RX1 20 "FourTintsModel" "near" "[I" ∈ wsX1_tintInOrder := by decide +kernel
theorem kX1_tintInOrder_3 : Cond.fieldLink RX1 13 "FourTintsModel" "tint" "[I" ∈ wsX1_tintInOrder := by decide +kernel
def q_X1_tintInOrder_L27 (u1 : Int32) (u3 : Int32) (near : Nat → Int32) (there : Int32) (P0 : Int32 → Prop) : Nat → Int32 → Int32 → Prop
  | 0, _, _ => False
  | n + 1, x4, x5 => (((10 : Int32) ≤ x5 → P0 x4) ∧ (¬ (10 : Int32) ≤ x5 → q_X1_isThere x5 there (fun (r4 : Int32) => xj1 (fun (v6 : Int32) => ((v6 = (0 : Int32) → q_X1_tintInOrder_L27 u1 u3 near there P0 n x4 (x5 + (1 : Int32))) ∧ (¬ v6 = (0 : Int32) → ((x4 = (-1 : Int32) → q_X1_tintInOrder_L27 u1 u3 near there P0 n x5 (x5 + (1 : Int32))) ∧ (¬ x4 = (-1 : Int32) → ((u1 = (0 : Int32) → q_X1_tintInOrder_L27 u1 u3 near there P0 n x4 (x5 + (1 : Int32))) ∧ (¬ u1 = (0 : Int32) → xin x5 10 = true ∧ q_X1_bits ((near x5.toNatClampNeg).toInt64) (fun (r7 : Int32) => xin x4 10 = true ∧ q_X1_bits ((near x4.toNatClampNeg).toInt64) (fun (r8 : Int32) => ((r7 ≤ r8 → q_X1_tintInOrder_L27 u1 u3 near there P0 n x4 (x5 + (1 : Int32))) ∧ (¬ r7 ≤ r8 → q_X1_tintInOrder_L27 u1 u3 near there P0 n x5 (x5 + (1 : Int32))))))))))))) (fun (J5 : Int32 → Prop) => xj0 (J5 (0 : Int32)) (fun (J9 : Prop) => ((r4 = (0 : Int32) → J9) ∧ (¬ r4 = (0 : Int32) → ((¬ ((u3 >>> (x5 &&& 31)) &&& (1 : Int32)) = (0 : Int32) → J9) ∧ (((u3 >>> (x5 &&& 31)) &&& (1 : Int32)) = (0 : Int32) → J5 (1 : Int32))))))))))
def q_X1_tintInOrder_L13 (u1 : Int32) (near : Nat → Int32) (there : Int32) (P0 : Int32 → (Nat → Int32) → Prop) : Nat → Int32 → Int32 → (Nat → Int32) → Prop
  | 0, _, _, _ => False
  | n + 1, x2, x3, tint => ((x3 = there → P0 x2 tint) ∧ (¬ x3 = there → (∃ n10 : Nat, q_X1_tintInOrder_L27 u1 x3 near there (fun (v11 : Int32) => xin v11 10 = true ∧ q_X1_least ((near v11.toNatClampNeg) &&& x3) tint (fun (r12 : Int32) => xin v11 10 = true ∧ xin v11 10 = true ∧ ((((upd tint v11.toNatClampNeg r12) v11.toNatClampNeg) ≤ x2 → xl (x3 ||| ((1 : Int32) <<< (v11 &&& 31))) (fun y14 => q_X1_tintInOrder_L13 u1 near there P0 n x2 y14 (upd tint v11.toNatClampNeg r12))) ∧ (¬ ((upd tint v11.toNatClampNeg r12) v11.toNatClampNeg) ≤ x2 → xin v11 10 = true ∧ xl ((upd tint v11.toNatClampNeg r12) v11.toNatClampNeg) (fun y15 => xl (x3 ||| ((1 : Int32) <<< (v11 &&& 31))) (fun y16 => q_X1_tintInOrder_L13 u1 near there P0 n y15 y16 (upd tint v11.toNatClampNeg r12))))))) n10 (-1 : Int32) (0 : Int32))))
def q_X1_tintInOrder (p1 : Int32) (cel : Nat → Int32) (tint : Nat → Int32) (cells : Nat → Int64) (near : Nat → Int32) (P : Int32 → (Nat → Int32) → (Nat → Int64) → (Nat → Int32) → Int32 → Int32 → Prop) : Prop := q_X1_looks cel cells near (fun (cells_1 : Nat → Int64) (near_2 : Nat → Int32) (there_3 : Int32) => (∃ n17 : Nat, q_X1_tintInOrder_L13 p1 near_2 there_3 (fun (v18 : Int32) (v19 : Nat → Int32) => P v18 v19 cells_1 near_2 there_3 (0 : Int32)) n17 (0 : Int32) (0 : Int32) tint))
set_option maxHeartbeats 4000000 in
set_option maxRecDepth 100000 in
theorem w_X1_tintInOrder_L27 {X : xC} {l : Launch} {D : va_G} {cI cJ cZ cA : ClassId} {V : Nat → Nat} (K : xk X l rm_X1_tintInOrder D vwCl (xtys cI cJ cZ cA) cX1_tintInOrder RX1 wsX1_tintInOrder 7) (u1 : Int32) (u2 : Int32) (u3 : Int32) (cel : Nat → Int32) (tint : Nat → Int32) (cells : Nat → Int64) (near : Nat → Int32) (there : Int32) (ways : Nat → Int64) (more : Nat → Int64) (thrown : Int32) (P0 : Int32 → Prop) : ∀ (n : Nat) (x4 : Int32) (x5 : Int32), q_X1_tintInOrder_L27 u1 u3 near there P0 n x4 x5 → (∀ (z0 : Int32), P0 z0 → xw X 0 0 114 [(0, .ref (V 0)), (1, .int u1), (2, .int u2), (3, .int u3), (4, .int z0)] [] (wX1 cI cJ cZ cA V cel tint cells near there ways more thrown)) → xw X 0 0 27 [(0, .ref (V 0)), (1, .int u1), (2, .int u2), (3, .int u3), (4, .int x4), (5, .int x5)] [] (wX1 cI cJ cZ cA V cel tint cells near there ways more thrown) := by
  intro n
  induction n with
  | zero =>
    intro x4 x5 h
    rw [q_X1_tintInOrder_L27] at h
    exact h.elim
  | succ n ih =>
    intro x4 x5 h k0
    rw [q_X1_tintInOrder_L27] at h
    refine x_iload (pc := 27) K dX1_tintInOrder_27 5 rfl ?_
    refine x_bipush (v := (10)) (pc := 29) K dX1_tintInOrder_29 (by decide) ?_
    refine x_icmp_ge (pc := 31) K dX1_tintInOrder_31 (tgt := 114) (by decide) (fun c9 => ?_) (fun c9 => ?_)
    · have h := h.1 c9
      refine x_keep [true, true, true, true, true, false] rfl ?_
      exact k0 x4 h
    · have h := h.2 c9
      refine x_aload_n (pc := 34) K dX1_tintInOrder_34 0 rfl rfl ?_
      refine x_iload (pc := 35) K dX1_tintInOrder_35 5 rfl ?_
      refine x_callVz (pc := 37) (n := 1) K (c_X1_isThere l D cI cJ cZ cA V x5 cel tint cells near there ways more thrown _ h) rfl rfl gX1_tintInOrder_X1_isThere rfl (by decide +kernel) ⟨Nat.le_of_ble_eq_true rfl, Nat.le_of_ble_eq_true rfl⟩ rfl (av := [.int x5]) (b := V 0) (ci := 1) (q0 := 0) rfl rfl rfl (Nat.le_of_ble_eq_true rfl) [0, 1, 2, 3, 4, 5, 6] [] (wr := []) rfl rfl rfl rfl (by decide) dX1_tintInOrder_37 ⟨Nat.le_of_ble_eq_true rfl, Nat.le_of_ble_eq_true rfl⟩ (fun r4 u9 h => ?_)
      refine x_ws (ws' := (wX1 cI cJ cZ cA V cel tint cells near there ways more thrown)) rfl ?_
      obtain ⟨J5, hJ5, h⟩ := xj1_o h
      have kJ5 : ∀ (v6 : Int32), J5 v6 → xw X 0 0 57 [(0, .ref (V 0)), (1, .int u1), (2, .int u2), (3, .int u3), (4, .int x4), (5, .int x5)] [.int v6] (wX1 cI cJ cZ cA V cel tint cells near there ways more thrown) := by
        intro v6 hj
        have h := hJ5 v6 hj
        refine x_istore (lv' := [(0, .ref (V 0)), (1, .int u1), (2, .int u2), (3, .int u3), (4, .int x4), (5, .int x5), (6, .int v6)]) (pc := 57) K dX1_tintInOrder_57 (by decide) rfl ?_
        refine x_iload (pc := 59) K dX1_tintInOrder_59 6 rfl ?_
        refine x_if_eq (pc := 61) K dX1_tintInOrder_61 (tgt := 104) (by decide) (fun c9 => ?_) (fun c9 => ?_)
        · have h := h.1 c9
          refine x_keep [true, true, true, true, true, true, false] rfl ?_
          refine x_iload (pc := 104) K dX1_tintInOrder_104 4 rfl ?_
          refine x_keep [true, true, true, true, false, true] rfl ?_
          refine x_istore (lv' := [(0, .ref (V 0)), (1, .int u1), (2, .int u2), (3, .int u3), (4, .int x4), (5, .int x5)]) (pc := 106) K dX1_tintInOrder_106 (by decide) rfl ?_
          refine x_iinc (v := x5 + (1 : Int32)) (lv' := [(0, .ref (V 0)), (1, .int u1), (2, .int u2), (3, .int u3), (4, .int x4), (5, .int (x5 + (1 : Int32)))]) (pc := 108) K dX1_tintInOrder_108 (k := 5) rfl rfl (by decide) rfl ?_
          refine x_goto (pc := 111) K dX1_tintInOrder_111 (tgt := 27) (by decide) ?_
          exact ih x4 (x5 + (1 : Int32)) h k0
        · have h := h.2 c9
          refine x_keep [true, true, true, true, true, true, false] rfl ?_
          refine x_iload (pc := 64) K dX1_tintInOrder_64 4 rfl ?_
          refine x_iconst (v := (-1)) (pc := 66) K dX1_tintInOrder_66 (by decide) ?_
          refine x_icmp_eq (pc := 67) K dX1_tintInOrder_67 (tgt := 99) (by decide) (fun c9 => ?_) (fun c9 => ?_)
          · have h := h.1 c9
            refine x_keep [true, true, true, true, false, true] rfl ?_
            refine x_iload (pc := 99) K dX1_tintInOrder_99 4 rfl ?_
            refine x_goto (pc := 101) K dX1_tintInOrder_101 (tgt := 106) (by decide) ?_
            refine x_istore (lv' := [(0, .ref (V 0)), (1, .int u1), (2, .int u2), (3, .int u3), (4, .int x5), (5, .int x5)]) (pc := 106) K dX1_tintInOrder_106 (by decide) rfl ?_
            refine x_iinc (v := x5 + (1 : Int32)) (lv' := [(0, .ref (V 0)), (1, .int u1), (2, .int u2), (3, .int u3), (4, .int x5), (5, .int (x5 + (1 : Int32)))]) (pc := 108) K dX1_tintInOrder_108 (k := 5) rfl rfl (by decide) rfl ?_
            refine x_goto (pc := 111) K dX1_tintInOrder_111 (tgt := 27) (by decide) ?_
            exact ih x5 (x5 + (1 : Int32)) h k0
          · have h := h.2 c9
            refine x_iload_n (pc := 70) K dX1_tintInOrder_70 1 rfl rfl ?_
            refine x_if_eq (pc := 71) K dX1_tintInOrder_71 (tgt := 104) (by decide) (fun c9 => ?_) (fun c9 => ?_)
            · have h := h.1 c9
              refine x_iload (pc := 104) K dX1_tintInOrder_104 4 rfl ?_
              refine x_keep [true, true, true, true, false, true] rfl ?_
              refine x_istore (lv' := [(0, .ref (V 0)), (1, .int u1), (2, .int u2), (3, .int u3), (4, .int x4), (5, .int x5)]) (pc := 106) K dX1_tintInOrder_106 (by decide) rfl ?_
              refine x_iinc (v := x5 + (1 : Int32)) (lv' := [(0, .ref (V 0)), (1, .int u1), (2, .int u2), (3, .int u3), (4, .int x4), (5, .int (x5 + (1 : Int32)))]) (pc := 108) K dX1_tintInOrder_108 (k := 5) rfl rfl (by decide) rfl ?_
              refine x_goto (pc := 111) K dX1_tintInOrder_111 (tgt := 27) (by decide) ?_
              exact ih x4 (x5 + (1 : Int32)) h k0
            · have h := h.2 c9
              refine x_aload_n (pc := 74) K dX1_tintInOrder_74 0 rfl rfl ?_
              refine x_get (pc := 75) (ci := 1) (C := RX1) (T := TX1) (N := 8) K (inX1_tintInOrder) 0 rfl rfl 3 (by decide) kX1_tintInOrder_2 rfl rfl dX1_tintInOrder_75 ?_
              refine x_iload (pc := 78) K dX1_tintInOrder_78 5 rfl ?_
              have g9 := h.1
              replace h := h.2
              refine x_iald (pc := 80) K 4 0 rfl rfl g9 dX1_tintInOrder_80 ?_
              clear g9
              refine x_i2l (pc := 81) K dX1_tintInOrder_81 ?_
              refine x_pcallSi (pc := 82) (n := 1) K (c_X1_bits l D cI cJ cZ cA ((near x5.toNatClampNeg).toInt64) _ h) rfl rfl gX1_tintInOrder_X1_bits rfl (by decide +kernel) ⟨Nat.le_of_ble_eq_true rfl, Nat.le_of_ble_eq_true rfl⟩ rfl (av := [.long ((near x5.toNatClampNeg).toInt64)]) rfl (Nat.le_of_ble_eq_true rfl) dX1_tintInOrder_82 ⟨Nat.le_of_ble_eq_true rfl, Nat.le_of_ble_eq_true rfl⟩ (fun r7 u9 h => ?_)
              refine x_aload_n (pc := 85) K dX1_tintInOrder_85 0 rfl rfl ?_
              refine x_get (pc := 86) (ci := 1) (C := RX1) (T := TX1) (N := 8) K (inX1_tintInOrder) 0 rfl rfl 3 (by decide) kX1_tintInOrder_2 rfl rfl dX1_tintInOrder_86 ?_
              refine x_iload (pc := 89) K dX1_tintInOrder_89 4 rfl ?_
              have g9 := h.1
              replace h := h.2
              refine x_iald (pc := 91) K 4 0 rfl rfl g9 dX1_tintInOrder_91 ?_
              clear g9
              refine x_i2l (pc := 92) K dX1_tintInOrder_92 ?_
              refine x_pcallSi (pc := 93) (n := 1) K (c_X1_bits l D cI cJ cZ cA ((near x4.toNatClampNeg).toInt64) _ h) rfl rfl gX1_tintInOrder_X1_bits rfl (by decide +kernel) ⟨Nat.le_of_ble_eq_true rfl, Nat.le_of_ble_eq_true rfl⟩ rfl (av := [.long ((near x4.toNatClampNeg).toInt64)]) rfl (Nat.le_of_ble_eq_true rfl) dX1_tintInOrder_93 ⟨Nat.le_of_ble_eq_true rfl, Nat.le_of_ble_eq_true rfl⟩ (fun r8 u9 h => ?_)
              refine x_icmp_le (pc := 96) K dX1_tintInOrder_96 (tgt := 104) (by decide) (fun c9 => ?_) (fun c9 => ?_)
              · have h := h.1 c9
                refine x_iload (pc := 104) K dX1_tintInOrder_104 4 rfl ?_
                refine x_keep [true, true, true, true, false, true] rfl ?_
                refine x_istore (lv' := [(0, .ref (V 0)), (1, .int u1), (2, .int u2), (3, .int u3), (4, .int x4), (5, .int x5)]) (pc := 106) K dX1_tintInOrder_106 (by decide) rfl ?_
                refine x_iinc (v := x5 + (1 : Int32)) (lv' := [(0, .ref (V 0)), (1, .int u1), (2, .int u2), (3, .int u3), (4, .int x4), (5, .int (x5 + (1 : Int32)))]) (pc := 108) K dX1_tintInOrder_108 (k := 5) rfl rfl (by decide) rfl ?_
                refine x_goto (pc := 111) K dX1_tintInOrder_111 (tgt := 27) (by decide) ?_
                exact ih x4 (x5 + (1 : Int32)) h k0
              · have h := h.2 c9
                refine x_keep [true, true, true, true, false, true] rfl ?_
                refine x_iload (pc := 99) K dX1_tintInOrder_99 4 rfl ?_
                refine x_goto (pc := 101) K dX1_tintInOrder_101 (tgt := 106) (by decide) ?_
                refine x_istore (lv' := [(0, .ref (V 0)), (1, .int u1), (2, .int u2), (3, .int u3), (4, .int x5), (5, .int x5)]) (pc := 106) K dX1_tintInOrder_106 (by decide) rfl ?_
                refine x_iinc (v := x5 + (1 : Int32)) (lv' := [(0, .ref (V 0)), (1, .int u1), (2, .int u2), (3, .int u3), (4, .int x5), (5, .int (x5 + (1 : Int32)))]) (pc := 108) K dX1_tintInOrder_108 (k := 5) rfl rfl (by decide) rfl ?_
                refine x_goto (pc := 111) K dX1_tintInOrder_111 (tgt := 27) (by decide) ?_
                exact ih x5 (x5 + (1 : Int32)) h k0
      obtain ⟨J9, hJ9, h⟩ := xj0_o h
      have kJ9 : J9 → xw X 0 0 56 [(0, .ref (V 0)), (1, .int u1), (2, .int u2), (3, .int u3), (4, .int x4), (5, .int x5)] [] (wX1 cI cJ cZ cA V cel tint cells near there ways more thrown) := by
        intro  hj
        have h := hJ9  hj
        refine x_iconst (v := (0)) (pc := 56) K dX1_tintInOrder_56 (by decide) ?_
        exact kJ5 (0 : Int32) h
      refine x_if_eq (pc := 40) K dX1_tintInOrder_40 (tgt := 56) (by decide) (fun c9 => ?_) (fun c9 => ?_)
      · have h := h.1 c9
        exact kJ9  h
      · have h := h.2 c9
        refine x_iload_n (pc := 43) K dX1_tintInOrder_43 3 rfl rfl ?_
        refine x_iload (pc := 44) K dX1_tintInOrder_44 5 rfl ?_
        refine x_ishr (pc := 46) K dX1_tintInOrder_46 ?_
        refine x_iconst (v := (1)) (pc := 47) K dX1_tintInOrder_47 (by decide) ?_
        refine x_iand (pc := 48) K dX1_tintInOrder_48 ?_
        refine x_if_ne (pc := 49) K dX1_tintInOrder_49 (tgt := 56) (by decide) (fun c9 => ?_) (fun c9 => ?_)
        · have h := h.1 c9
          exact kJ9  h
        · have h := h.2 c9
          refine x_iconst (v := (1)) (pc := 52) K dX1_tintInOrder_52 (by decide) ?_
          refine x_goto (pc := 53) K dX1_tintInOrder_53 (tgt := 57) (by decide) ?_
          exact kJ5 (1 : Int32) h
set_option maxHeartbeats 4000000 in
set_option maxRecDepth 100000 in
theorem w_X1_tintInOrder_L13 {X : xC} {l : Launch} {D : va_G} {cI cJ cZ cA : ClassId} {V : Nat → Nat} (K : xk X l rm_X1_tintInOrder D vwCl (xtys cI cJ cZ cA) cX1_tintInOrder RX1 wsX1_tintInOrder 7) (u1 : Int32) (cel : Nat → Int32) (cells : Nat → Int64) (near : Nat → Int32) (there : Int32) (ways : Nat → Int64) (more : Nat → Int64) (thrown : Int32) (P0 : Int32 → (Nat → Int32) → Prop) : ∀ (n : Nat) (x2 : Int32) (x3 : Int32) (tint : Nat → Int32), q_X1_tintInOrder_L13 u1 near there P0 n x2 x3 tint → (∀ (z0 : Int32) (z1 : Nat → Int32), P0 z0 z1 → xw X 0 0 167 [(2, .int z0)] [] (wX1 cI cJ cZ cA V cel z1 cells near there ways more thrown)) → xw X 0 0 13 [(0, .ref (V 0)), (1, .int u1), (2, .int x2), (3, .int x3)] [] (wX1 cI cJ cZ cA V cel tint cells near there ways more thrown) := by
  intro n
  induction n with
  | zero =>
    intro x2 x3 tint h
    rw [q_X1_tintInOrder_L13] at h
    exact h.elim
  | succ n ih =>
    intro x2 x3 tint h k0
    rw [q_X1_tintInOrder_L13] at h
    refine x_iload_n (pc := 13) K dX1_tintInOrder_13 3 rfl rfl ?_
    refine x_aload_n (pc := 14) K dX1_tintInOrder_14 0 rfl rfl ?_
    refine x_get (pc := 15) (ci := 1) (C := RX1) (T := TX1) (N := 8) K (inX1_tintInOrder) 0 rfl rfl 4 (by decide) kX1_tintInOrder_1 rfl rfl dX1_tintInOrder_15 ?_
    refine x_icmp_eq (pc := 18) K dX1_tintInOrder_18 (tgt := 167) (by decide) (fun c9 => ?_) (fun c9 => ?_)
    · have h := h.1 c9
      refine x_keep [false, false, true, false] rfl ?_
      exact k0 x2 tint h
    · have h := h.2 c9
      refine x_iconst (v := (-1)) (pc := 21) K dX1_tintInOrder_21 (by decide) ?_
      refine x_istore (lv' := [(0, .ref (V 0)), (1, .int u1), (2, .int x2), (3, .int x3), (4, .int (-1 : Int32))]) (pc := 22) K dX1_tintInOrder_22 (by decide) rfl ?_
      refine x_iconst (v := (0)) (pc := 24) K dX1_tintInOrder_24 (by decide) ?_
      refine x_istore (lv' := [(0, .ref (V 0)), (1, .int u1), (2, .int x2), (3, .int x3), (4, .int (-1 : Int32)), (5, .int (0 : Int32))]) (pc := 25) K dX1_tintInOrder_25 (by decide) rfl ?_
      obtain ⟨n10, h⟩ := h
      refine w_X1_tintInOrder_L27 K u1 x2 x3 cel tint cells near there ways more thrown _ n10 (-1 : Int32) (0 : Int32) h (fun v11 h => ?_)
      refine x_aload_n (pc := 114) K dX1_tintInOrder_114 0 rfl rfl ?_
      refine x_get (pc := 115) (ci := 1) (C := RX1) (T := TX1) (N := 8) K (inX1_tintInOrder) 0 rfl rfl 1 (by decide) kX1_tintInOrder_3 rfl rfl dX1_tintInOrder_115 ?_
      refine x_iload (pc := 118) K dX1_tintInOrder_118 4 rfl ?_
      refine x_aload_n (pc := 120) K dX1_tintInOrder_120 0 rfl rfl ?_
      refine x_aload_n (pc := 121) K dX1_tintInOrder_121 0 rfl rfl ?_
      refine x_get (pc := 122) (ci := 1) (C := RX1) (T := TX1) (N := 8) K (inX1_tintInOrder) 0 rfl rfl 3 (by decide) kX1_tintInOrder_2 rfl rfl dX1_tintInOrder_122 ?_
      refine x_iload (pc := 125) K dX1_tintInOrder_125 4 rfl ?_
      have g9 := h.1
      replace h := h.2
      refine x_iald (pc := 127) K 4 0 rfl rfl g9 dX1_tintInOrder_127 ?_
      clear g9
      refine x_iload_n (pc := 128) K dX1_tintInOrder_128 3 rfl rfl ?_
      refine x_iand (pc := 129) K dX1_tintInOrder_129 ?_
      refine x_callVi (pc := 130) (n := 1) K (c_X1_least l D cI cJ cZ cA V ((near v11.toNatClampNeg) &&& x3) cel tint cells near there ways more thrown _ h) rfl rfl gX1_tintInOrder_X1_least rfl (by decide +kernel) ⟨Nat.le_of_ble_eq_true rfl, Nat.le_of_ble_eq_true rfl⟩ rfl (av := [.int ((near v11.toNatClampNeg) &&& x3)]) (b := V 0) (ci := 1) (q0 := 0) rfl rfl rfl (Nat.le_of_ble_eq_true rfl) [0, 1, 2, 3, 4, 5, 6] [] (wr := []) rfl rfl rfl rfl (by decide) dX1_tintInOrder_130 ⟨Nat.le_of_ble_eq_true rfl, Nat.le_of_ble_eq_true rfl⟩ (fun r12 u9 h => ?_)
      refine x_ws (ws' := (wX1 cI cJ cZ cA V cel tint cells near there ways more thrown)) rfl ?_
      have g9 := h.1
      replace h := h.2
      refine x_iast (ws' := (wX1 cI cJ cZ cA V cel (upd tint v11.toNatClampNeg r12) cells near there ways more thrown)) (pc := 133) K 2 0 rfl rfl rfl g9 dX1_tintInOrder_133 ?_
      clear g9
      refine x_aload_n (pc := 134) K dX1_tintInOrder_134 0 rfl rfl ?_
      refine x_get (pc := 135) (ci := 1) (C := RX1) (T := TX1) (N := 8) K (inX1_tintInOrder) 0 rfl rfl 1 (by decide) kX1_tintInOrder_3 rfl rfl dX1_tintInOrder_135 ?_
      refine x_iload (pc := 138) K dX1_tintInOrder_138 4 rfl ?_
      have g9 := h.1
      replace h := h.2
      refine x_iald (pc := 140) K 2 0 rfl rfl g9 dX1_tintInOrder_140 ?_
      clear g9
      refine x_iload_n (pc := 141) K dX1_tintInOrder_141 2 rfl rfl ?_
      refine x_icmp_le (pc := 142) K dX1_tintInOrder_142 (tgt := 155) (by decide) (fun c9 => ?_) (fun c9 => ?_)
      · have h := h.1 c9
        refine x_iload_n (pc := 155) K dX1_tintInOrder_155 2 rfl rfl ?_
        refine x_keep [true, true, false, true, true] rfl ?_
        refine x_istore_n (lv' := [(0, .ref (V 0)), (1, .int u1), (2, .int x2), (3, .int x3), (4, .int v11)]) (pc := 156) K dX1_tintInOrder_156 rfl (by decide) rfl ?_
        refine x_iload_n (pc := 157) K dX1_tintInOrder_157 3 rfl rfl ?_
        refine x_iconst (v := (1)) (pc := 158) K dX1_tintInOrder_158 (by decide) ?_
        refine x_iload (pc := 159) K dX1_tintInOrder_159 4 rfl ?_
        refine x_ishl (pc := 161) K dX1_tintInOrder_161 ?_
        refine x_ior (pc := 162) K dX1_tintInOrder_162 ?_
        obtain ⟨y14, ey14, h⟩ := xl_o h
        refine x_topi ey14 ?_
        clear ey14
        refine x_istore_n (lv' := [(0, .ref (V 0)), (1, .int u1), (2, .int x2), (3, .int y14), (4, .int v11)]) (pc := 163) K dX1_tintInOrder_163 rfl (by decide) rfl ?_
        refine x_goto (pc := 164) K dX1_tintInOrder_164 (tgt := 13) (by decide) ?_
        refine x_keep [true, true, true, true, false] rfl ?_
        exact ih x2 y14 (upd tint v11.toNatClampNeg r12) h k0
      · have h := h.2 c9
        refine x_keep [true, true, false, true, true] rfl ?_
        refine x_aload_n (pc := 145) K dX1_tintInOrder_145 0 rfl rfl ?_
        refine x_get (pc := 146) (ci := 1) (C := RX1) (T := TX1) (N := 8) K (inX1_tintInOrder) 0 rfl rfl 1 (by decide) kX1_tintInOrder_3 rfl rfl dX1_tintInOrder_146 ?_
        refine x_iload (pc := 149) K dX1_tintInOrder_149 3 rfl ?_
        have g9 := h.1
        replace h := h.2
        refine x_iald (pc := 151) K 2 0 rfl rfl g9 dX1_tintInOrder_151 ?_
        clear g9
        refine x_goto (pc := 152) K dX1_tintInOrder_152 (tgt := 156) (by decide) ?_
        obtain ⟨y15, ey15, h⟩ := xl_o h
        refine x_topi ey15 ?_
        clear ey15
        refine x_istore_n (lv' := [(0, .ref (V 0)), (1, .int u1), (2, .int y15), (3, .int x3), (4, .int v11)]) (pc := 156) K dX1_tintInOrder_156 rfl (by decide) rfl ?_
        refine x_iload_n (pc := 157) K dX1_tintInOrder_157 3 rfl rfl ?_
        refine x_iconst (v := (1)) (pc := 158) K dX1_tintInOrder_158 (by decide) ?_
        refine x_iload (pc := 159) K dX1_tintInOrder_159 4 rfl ?_
        refine x_ishl (pc := 161) K dX1_tintInOrder_161 ?_
        refine x_ior (pc := 162) K dX1_tintInOrder_162 ?_
        obtain ⟨y16, ey16, h⟩ := xl_o h
        refine x_topi ey16 ?_
        clear ey16
        refine x_istore_n (lv' := [(0, .ref (V 0)), (1, .int u1), (2, .int y15), (3, .int y16), (4, .int v11)]) (pc := 163) K dX1_tintInOrder_163 rfl (by decide) rfl ?_
        refine x_goto (pc := 164) K dX1_tintInOrder_164 (tgt := 13) (by decide) ?_
        refine x_keep [true, true, true, true, false] rfl ?_
        exact ih y15 y16 (upd tint v11.toNatClampNeg r12) h k0
set_option maxHeartbeats 4000000 in
set_option maxRecDepth 100000 in
theorem c_X1_tintInOrder (l : Launch) (D : va_G) (cI cJ cZ cA : ClassId) (V : Nat → Nat) (p1 : Int32) (cel : Nat → Int32) (tint : Nat → Int32) (cells : Nat → Int64) (near : Nat → Int32) (there : Int32) (ways : Nat → Int64) (more : Nat → Int64) (thrown : Int32) (P : Int32 → (Nat → Int32) → (Nat → Int64) → (Nat → Int32) → Int32 → Int32 → Prop) (h : q_X1_tintInOrder p1 cel tint cells near P) : xMi l yX1_tintInOrder wsX1_tintInOrder rm_X1_tintInOrder D vwCl (xtys cI cJ cZ cA) (wX1 cI cJ cZ cA V cel tint cells near there ways more thrown) [.ref (V 0), .int p1] (σ := (Nat → Int32) × (Nat → Int64) × (Nat → Int32) × Int32 × Int32) (fun u => (wX1 cI cJ cZ cA V cel u.1 u.2.1 u.2.2.1 u.2.2.2.1 ways more u.2.2.2.2)) (fun r u => P r u.1 u.2.1 u.2.2.1 u.2.2.2.1 u.2.2.2.2) := by
  refine xMi_of (cc := cX1_tintInOrder) (maxL := 7) (by decide) rfl (Nat.le_of_ble_eq_true rfl) ?_
  intro X K hE
  have K : xk X l rm_X1_tintInOrder D vwCl (xtys cI cJ cZ cA) cX1_tintInOrder RX1 wsX1_tintInOrder 7 := K
  unfold q_X1_tintInOrder at h
  refine x_aload_n (pc := 0) K dX1_tintInOrder_0 0 rfl rfl ?_
  refine x_callVv (pc := 1) (n := 0) K (c_X1_looks l D cI cJ cZ cA V cel tint cells near there ways more thrown _ h) rfl rfl gX1_tintInOrder_X1_looks rfl (by decide +kernel) ⟨Nat.le_of_ble_eq_true rfl, Nat.le_of_ble_eq_true rfl⟩ rfl (av := []) (b := V 0) (ci := 1) (q0 := 0) rfl rfl rfl (Nat.le_of_ble_eq_true rfl) [0, 1, 2, 3, 4, 5, 6] [] (wr := []) rfl rfl rfl rfl (by decide) dX1_tintInOrder_1 ⟨Nat.le_of_ble_eq_true rfl, Nat.le_of_ble_eq_true rfl⟩ (fun u9 h => ?_)
  obtain ⟨cells_1, near_2, there_3⟩ := u9
  refine x_ws (ws' := (wX1 cI cJ cZ cA V cel tint cells_1 near_2 there_3 ways more thrown)) rfl ?_
  refine x_aload_n (pc := 4) K dX1_tintInOrder_4 0 rfl rfl ?_
  refine x_iconst (v := (0)) (pc := 5) K dX1_tintInOrder_5 (by decide) ?_
  refine x_put (ws' := (wX1 cI cJ cZ cA V cel tint cells_1 near_2 there_3 ways more (0 : Int32))) (pc := 6) (ci := 1) (C := RX1) (T := TX1) (N := 8) (ty := .int) K (inX1_tintInOrder) tyX1 tyX1_ok nmX1 0 rfl rfl 7 (by decide) kX1_tintInOrder_0 rfl rfl rfl rfl rfl (Nat.le_of_ble_eq_true rfl) rfl dX1_tintInOrder_6 ?_
  refine x_iconst (v := (0)) (pc := 9) K dX1_tintInOrder_9 (by decide) ?_
  refine x_istore_n (lv' := [(0, .ref (V 0)), (1, .int p1), (2, .int (0 : Int32))]) (pc := 10) K dX1_tintInOrder_10 rfl (by decide) rfl ?_
  refine x_iconst (v := (0)) (pc := 11) K dX1_tintInOrder_11 (by decide) ?_
  refine x_istore_n (lv' := [(0, .ref (V 0)), (1, .int p1), (2, .int (0 : Int32)), (3, .int (0 : Int32))]) (pc := 12) K dX1_tintInOrder_12 rfl (by decide) rfl ?_
  obtain ⟨n17, h⟩ := h
  refine w_X1_tintInOrder_L13 K p1 cel cells_1 near_2 there_3 ways more (0 : Int32) _ n17 (0 : Int32) (0 : Int32) tint h (fun v18 v19 h => ?_)
  refine x_iload_n (pc := 167) K dX1_tintInOrder_167 0 rfl rfl ?_
  exact hE v18 (v19, cells_1, near_2, there_3, (0 : Int32)) _ _ h dX1_tintInOrder_168
abbrev rm_X1_begins : Room := { frames := 10, cells := 0, slots := 0, locals := 200 }
theorem inX1_begins : ∀ w ∈ u_ws RX1 TX1 8, w ∈ wsX1_begins := by decide +kernel
theorem kX1_begins_0 : Cond.fieldLink RX1 23 "FourTintsModel" "ways" "[J" ∈ wsX1_begins := by decide +kernel
def q_X1_begins_L6 (P0 : (Nat → Int64) → Prop) : Nat → Int32 → (Nat → Int64) → Prop
  | 0, _, _ => False
  | n + 1, x1, ways => (((1024 : Int32) ≤ x1 → P0 ways) ∧ (¬ (1024 : Int32) ≤ x1 → ((¬ x1 = (0 : Int32) → xin x1 1024 = true ∧ q_X1_begins_L6 P0 n (x1 + (1 : Int32)) (vp_updL ways x1.toNatClampNeg (0 : Int64))) ∧ (x1 = (0 : Int32) → xin x1 1024 = true ∧ q_X1_begins_L6 P0 n (x1 + (1 : Int32)) (vp_updL ways x1.toNatClampNeg (1 : Int64))))))
def q_X1_begins (cel : Nat → Int32) (cells : Nat → Int64) (near : Nat → Int32) (ways : Nat → Int64) (P : (Nat → Int64) → (Nat → Int32) → Int32 → (Nat → Int64) → Prop) : Prop := q_X1_looks cel cells near (fun (cells_1 : Nat → Int64) (near_2 : Nat → Int32) (there_3 : Int32) => (∃ n6 : Nat, q_X1_begins_L6 (fun (v7 : Nat → Int64) => P cells_1 near_2 there_3 v7) n6 (0 : Int32) ways))
set_option maxHeartbeats 4000000 in
set_option maxRecDepth 100000 in
theorem w_X1_begins_L6 {X : xC} {l : Launch} {D : va_G} {cI cJ cZ cA : ClassId} {V : Nat → Nat} (K : xk X l rm_X1_begins D vwCl (xtys cI cJ cZ cA) cX1_begins RX1 wsX1_begins 2) (cel : Nat → Int32) (tint : Nat → Int32) (cells : Nat → Int64) (near : Nat → Int32) (there : Int32) (more : Nat → Int64) (thrown : Int32) (P0 : (Nat → Int64) → Prop) : ∀ (n : Nat) (x1 : Int32) (ways : Nat → Int64), q_X1_begins_L6 P0 n x1 ways → (∀ (z0 : Nat → Int64), P0 z0 → xw X 0 0 34 [] [] (wX1 cI cJ cZ cA V cel tint cells near there z0 more thrown)) → xw X 0 0 6 [(0, .ref (V 0)), (1, .int x1)] [] (wX1 cI cJ cZ cA V cel tint cells near there ways more thrown) := by
  intro n
  induction n with
  | zero =>
    intro x1 ways h
    rw [q_X1_begins_L6] at h
    exact h.elim
  | succ n ih =>
    intro x1 ways h k0
    rw [q_X1_begins_L6] at h
    refine x_iload_n (pc := 6) K dX1_begins_6 1 rfl rfl ?_
    refine x_sipush (v := (1024)) (pc := 7) K dX1_begins_7 (by decide) ?_
    refine x_icmp_ge (pc := 10) K dX1_begins_10 (tgt := 34) (by decide) (fun c9 => ?_) (fun c9 => ?_)
    · have h := h.1 c9
      refine x_keep [false, false] rfl ?_
      exact k0 ways h
    · have h := h.2 c9
      refine x_aload_n (pc := 13) K dX1_begins_13 0 rfl rfl ?_
      refine x_get (pc := 14) (ci := 1) (C := RX1) (T := TX1) (N := 8) K (inX1_begins) 0 rfl rfl 5 (by decide) kX1_begins_0 rfl rfl dX1_begins_14 ?_
      refine x_iload_n (pc := 17) K dX1_begins_17 1 rfl rfl ?_
      refine x_iload_n (pc := 18) K dX1_begins_18 1 rfl rfl ?_
      refine x_if_ne (pc := 19) K dX1_begins_19 (tgt := 26) (by decide) (fun c9 => ?_) (fun c9 => ?_)
      · have h := h.1 c9
        refine x_lconst (v := (0)) (pc := 26) K dX1_begins_26 (by decide) ?_
        have g9 := h.1
        replace h := h.2
        refine x_last (ws' := (wX1 cI cJ cZ cA V cel tint cells near there (vp_updL ways x1.toNatClampNeg (0 : Int64)) more thrown)) (pc := 27) K 5 1 rfl rfl rfl g9 dX1_begins_27 ?_
        clear g9
        refine x_iinc (v := x1 + (1 : Int32)) (lv' := [(0, .ref (V 0)), (1, .int (x1 + (1 : Int32)))]) (pc := 28) K dX1_begins_28 (k := 1) rfl rfl (by decide) rfl ?_
        refine x_goto (pc := 31) K dX1_begins_31 (tgt := 6) (by decide) ?_
        exact ih (x1 + (1 : Int32)) (vp_updL ways x1.toNatClampNeg (0 : Int64)) h k0
      · have h := h.2 c9
        refine x_lconst (v := (1)) (pc := 22) K dX1_begins_22 (by decide) ?_
        refine x_goto (pc := 23) K dX1_begins_23 (tgt := 27) (by decide) ?_
        have g9 := h.1
        replace h := h.2
        refine x_last (ws' := (wX1 cI cJ cZ cA V cel tint cells near there (vp_updL ways x1.toNatClampNeg (1 : Int64)) more thrown)) (pc := 27) K 5 1 rfl rfl rfl g9 dX1_begins_27 ?_
        clear g9
        refine x_iinc (v := x1 + (1 : Int32)) (lv' := [(0, .ref (V 0)), (1, .int (x1 + (1 : Int32)))]) (pc := 28) K dX1_begins_28 (k := 1) rfl rfl (by decide) rfl ?_
        refine x_goto (pc := 31) K dX1_begins_31 (tgt := 6) (by decide) ?_
        exact ih (x1 + (1 : Int32)) (vp_updL ways x1.toNatClampNeg (1 : Int64)) h k0
set_option maxHeartbeats 4000000 in
set_option maxRecDepth 100000 in
theorem c_X1_begins (l : Launch) (D : va_G) (cI cJ cZ cA : ClassId) (V : Nat → Nat) (cel : Nat → Int32) (tint : Nat → Int32) (cells : Nat → Int64) (near : Nat → Int32) (there : Int32) (ways : Nat → Int64) (more : Nat → Int64) (thrown : Int32) (P : (Nat → Int64) → (Nat → Int32) → Int32 → (Nat → Int64) → Prop) (h : q_X1_begins cel cells near ways P) : xMv l yX1_begins wsX1_begins rm_X1_begins D vwCl (xtys cI cJ cZ cA) (wX1 cI cJ cZ cA V cel tint cells near there ways more thrown) [.ref (V 0)] (σ := (Nat → Int64) × (Nat → Int32) × Int32 × (Nat → Int64)) (fun u => (wX1 cI cJ cZ cA V cel tint u.1 u.2.1 u.2.2.1 u.2.2.2 more thrown)) (fun u => P u.1 u.2.1 u.2.2.1 u.2.2.2) := by
  refine xMv_of (cc := cX1_begins) (maxL := 2) (by decide) rfl (Nat.le_of_ble_eq_true rfl) ?_
  intro X K hE
  have K : xk X l rm_X1_begins D vwCl (xtys cI cJ cZ cA) cX1_begins RX1 wsX1_begins 2 := K
  unfold q_X1_begins at h
  refine x_aload_n (pc := 0) K dX1_begins_0 0 rfl rfl ?_
  refine x_callVv (pc := 1) (n := 0) K (c_X1_looks l D cI cJ cZ cA V cel tint cells near there ways more thrown _ h) rfl rfl gX1_begins_X1_looks rfl (by decide +kernel) ⟨Nat.le_of_ble_eq_true rfl, Nat.le_of_ble_eq_true rfl⟩ rfl (av := []) (b := V 0) (ci := 1) (q0 := 0) rfl rfl rfl (Nat.le_of_ble_eq_true rfl) [0, 1, 2, 3, 4, 5, 6] [] (wr := []) rfl rfl rfl rfl (by decide) dX1_begins_1 ⟨Nat.le_of_ble_eq_true rfl, Nat.le_of_ble_eq_true rfl⟩ (fun u9 h => ?_)
  obtain ⟨cells_1, near_2, there_3⟩ := u9
  refine x_ws (ws' := (wX1 cI cJ cZ cA V cel tint cells_1 near_2 there_3 ways more thrown)) rfl ?_
  refine x_iconst (v := (0)) (pc := 4) K dX1_begins_4 (by decide) ?_
  refine x_istore_n (lv' := [(0, .ref (V 0)), (1, .int (0 : Int32))]) (pc := 5) K dX1_begins_5 rfl (by decide) rfl ?_
  obtain ⟨n6, h⟩ := h
  refine w_X1_begins_L6 K cel tint cells_1 near_2 there_3 more thrown _ n6 (0 : Int32) ways h (fun v7 h => ?_)
  exact hE (cells_1, near_2, there_3, v7) _ _ h dX1_begins_34
abbrev rm_X1_adds : Room := { frames := 9, cells := 0, slots := 0, locals := 160 }
theorem inX1_adds : ∀ w ∈ u_ws RX1 TX1 8, w ∈ wsX1_adds := by decide +kernel
theorem kX1_adds_0 : Cond.fieldLink RX1 26 "FourTintsModel" "more" "[J" ∈ wsX1_adds := by decide +kernel
theorem kX1_adds_1 : Cond.fieldLink RX1 47 "FourTintsModel" "there" "I" ∈ wsX1_adds := by decide +kernel
theorem kX1_adds_2 : Cond.fieldLink RX1 23 "FourTintsModel" "ways" "[J" ∈ wsX1_adds := by decide +kernel
def q_X1_adds_L2 (P0 : (Nat → Int64) → Prop) : Nat → Int32 → (Nat → Int64) → Prop
  | 0, _, _ => False
  | n + 1, x1, more => (((1024 : Int32) ≤ x1 → P0 more) ∧ (¬ (1024 : Int32) ≤ x1 → xin x1 1024 = true ∧ q_X1_adds_L2 P0 n (x1 + (1 : Int32)) (vp_updL more x1.toNatClampNeg (0 : Int64))))
def q_X1_adds_L51 (u1 : Int32) (u2 : Int32) (ways : Nat → Int64) (P0 : (Nat → Int64) → Prop) : Nat → Int32 → (Nat → Int64) → Prop
  | 0, _, _ => False
  | n + 1, x3, more => ((x3 < (0 : Int32) → P0 more) ∧ (¬ x3 < (0 : Int32) → xin (x3 ||| u1) 1024 = true ∧ xin x3 1024 = true ∧ xin (x3 ||| u1) 1024 = true ∧ ((¬ x3 = (0 : Int32) → xl ((x3 - (1 : Int32)) &&& u2) (fun y7 => q_X1_adds_L51 u1 u2 ways P0 n y7 (vp_updL more ((x3 ||| u1).toNatClampNeg) ((more (x3 ||| u1).toNatClampNeg) + (ways x3.toNatClampNeg))))) ∧ (x3 = (0 : Int32) → q_X1_adds_L51 u1 u2 ways P0 n (-1 : Int32) (vp_updL more ((x3 ||| u1).toNatClampNeg) ((more (x3 ||| u1).toNatClampNeg) + (ways x3.toNatClampNeg)))))))
def q_X1_adds_L24 (near : Nat → Int32) (there : Int32) (ways : Nat → Int64) (P0 : (Nat → Int64) → Prop) : Nat → Int32 → (Nat → Int64) → Prop
  | 0, _, _ => False
  | n + 1, x1, more => (((1024 : Int32) ≤ x1 → P0 more) ∧ (¬ (1024 : Int32) ≤ x1 → q_X1_areNear x1 (0 : Int32) near there (fun (r4 : Int32) => ((r4 = (0 : Int32) → q_X1_adds_L24 near there ways P0 n (x1 + (1 : Int32)) more) ∧ (¬ r4 = (0 : Int32) → xl (there &&& (x1 ^^^ (-1 : Int32))) (fun y5 => (∃ n8 : Nat, q_X1_adds_L51 x1 y5 ways (fun (v9 : Nat → Int64) => q_X1_adds_L24 near there ways P0 n (x1 + (1 : Int32)) v9) n8 y5 more)))))))
def q_X1_adds_L97 (more : Nat → Int64) (P0 : (Nat → Int64) → Prop) : Nat → Int32 → (Nat → Int64) → Prop
  | 0, _, _ => False
  | n + 1, x1, ways => (((1024 : Int32) ≤ x1 → P0 ways) ∧ (¬ (1024 : Int32) ≤ x1 → xin x1 1024 = true ∧ xin x1 1024 = true ∧ q_X1_adds_L97 more P0 n (x1 + (1 : Int32)) (vp_updL ways x1.toNatClampNeg (more x1.toNatClampNeg))))
def q_X1_adds (near : Nat → Int32) (there : Int32) (ways : Nat → Int64) (more : Nat → Int64) (P : (Nat → Int64) → (Nat → Int64) → Prop) : Prop := (∃ n2 : Nat, q_X1_adds_L2 (fun (v3 : Nat → Int64) => (∃ n10 : Nat, q_X1_adds_L24 near there ways (fun (v11 : Nat → Int64) => (∃ n13 : Nat, q_X1_adds_L97 v11 (fun (v14 : Nat → Int64) => P v14 v11) n13 (0 : Int32) ways)) n10 (0 : Int32) v3)) n2 (0 : Int32) more)
set_option maxHeartbeats 4000000 in
set_option maxRecDepth 100000 in
theorem w_X1_adds_L2 {X : xC} {l : Launch} {D : va_G} {cI cJ cZ cA : ClassId} {V : Nat → Nat} (K : xk X l rm_X1_adds D vwCl (xtys cI cJ cZ cA) cX1_adds RX1 wsX1_adds 4) (cel : Nat → Int32) (tint : Nat → Int32) (cells : Nat → Int64) (near : Nat → Int32) (there : Int32) (ways : Nat → Int64) (thrown : Int32) (P0 : (Nat → Int64) → Prop) : ∀ (n : Nat) (x1 : Int32) (more : Nat → Int64), q_X1_adds_L2 P0 n x1 more → (∀ (z0 : Nat → Int64), P0 z0 → xw X 0 0 22 [(0, .ref (V 0))] [] (wX1 cI cJ cZ cA V cel tint cells near there ways z0 thrown)) → xw X 0 0 2 [(0, .ref (V 0)), (1, .int x1)] [] (wX1 cI cJ cZ cA V cel tint cells near there ways more thrown) := by
  intro n
  induction n with
  | zero =>
    intro x1 more h
    rw [q_X1_adds_L2] at h
    exact h.elim
  | succ n ih =>
    intro x1 more h k0
    rw [q_X1_adds_L2] at h
    refine x_iload_n (pc := 2) K dX1_adds_2 1 rfl rfl ?_
    refine x_sipush (v := (1024)) (pc := 3) K dX1_adds_3 (by decide) ?_
    refine x_icmp_ge (pc := 6) K dX1_adds_6 (tgt := 22) (by decide) (fun c9 => ?_) (fun c9 => ?_)
    · have h := h.1 c9
      refine x_keep [true, false] rfl ?_
      exact k0 more h
    · have h := h.2 c9
      refine x_aload_n (pc := 9) K dX1_adds_9 0 rfl rfl ?_
      refine x_get (pc := 10) (ci := 1) (C := RX1) (T := TX1) (N := 8) K (inX1_adds) 0 rfl rfl 6 (by decide) kX1_adds_0 rfl rfl dX1_adds_10 ?_
      refine x_iload_n (pc := 13) K dX1_adds_13 1 rfl rfl ?_
      refine x_lconst (v := (0)) (pc := 14) K dX1_adds_14 (by decide) ?_
      have g9 := h.1
      replace h := h.2
      refine x_last (ws' := (wX1 cI cJ cZ cA V cel tint cells near there ways (vp_updL more x1.toNatClampNeg (0 : Int64)) thrown)) (pc := 15) K 6 1 rfl rfl rfl g9 dX1_adds_15 ?_
      clear g9
      refine x_iinc (v := x1 + (1 : Int32)) (lv' := [(0, .ref (V 0)), (1, .int (x1 + (1 : Int32)))]) (pc := 16) K dX1_adds_16 (k := 1) rfl rfl (by decide) rfl ?_
      refine x_goto (pc := 19) K dX1_adds_19 (tgt := 2) (by decide) ?_
      exact ih (x1 + (1 : Int32)) (vp_updL more x1.toNatClampNeg (0 : Int64)) h k0
set_option maxHeartbeats 4000000 in
set_option maxRecDepth 100000 in
theorem w_X1_adds_L51 {X : xC} {l : Launch} {D : va_G} {cI cJ cZ cA : ClassId} {V : Nat → Nat} (K : xk X l rm_X1_adds D vwCl (xtys cI cJ cZ cA) cX1_adds RX1 wsX1_adds 4) (u1 : Int32) (u2 : Int32) (cel : Nat → Int32) (tint : Nat → Int32) (cells : Nat → Int64) (near : Nat → Int32) (there : Int32) (ways : Nat → Int64) (thrown : Int32) (P0 : (Nat → Int64) → Prop) : ∀ (n : Nat) (x3 : Int32) (more : Nat → Int64), q_X1_adds_L51 u1 u2 ways P0 n x3 more → (∀ (z0 : Nat → Int64), P0 z0 → xw X 0 0 89 [(0, .ref (V 0)), (1, .int u1)] [] (wX1 cI cJ cZ cA V cel tint cells near there ways z0 thrown)) → xw X 0 0 51 [(0, .ref (V 0)), (1, .int u1), (2, .int u2), (3, .int x3)] [] (wX1 cI cJ cZ cA V cel tint cells near there ways more thrown) := by
  intro n
  induction n with
  | zero =>
    intro x3 more h
    rw [q_X1_adds_L51] at h
    exact h.elim
  | succ n ih =>
    intro x3 more h k0
    rw [q_X1_adds_L51] at h
    refine x_iload_n (pc := 51) K dX1_adds_51 3 rfl rfl ?_
    refine x_if_lt (pc := 52) K dX1_adds_52 (tgt := 89) (by decide) (fun c9 => ?_) (fun c9 => ?_)
    · have h := h.1 c9
      refine x_keep [true, true, false, false] rfl ?_
      exact k0 more h
    · have h := h.2 c9
      refine x_aload_n (pc := 55) K dX1_adds_55 0 rfl rfl ?_
      refine x_get (pc := 56) (ci := 1) (C := RX1) (T := TX1) (N := 8) K (inX1_adds) 0 rfl rfl 6 (by decide) kX1_adds_0 rfl rfl dX1_adds_56 ?_
      refine x_iload_n (pc := 59) K dX1_adds_59 3 rfl rfl ?_
      refine x_iload_n (pc := 60) K dX1_adds_60 1 rfl rfl ?_
      refine x_ior (pc := 61) K dX1_adds_61 ?_
      refine x_dup2 (pc := 62) K dX1_adds_62 rfl rfl ?_
      have g9 := h.1
      replace h := h.2
      refine x_lald (pc := 63) K 6 1 rfl rfl g9 dX1_adds_63 ?_
      clear g9
      refine x_aload_n (pc := 64) K dX1_adds_64 0 rfl rfl ?_
      refine x_get (pc := 65) (ci := 1) (C := RX1) (T := TX1) (N := 8) K (inX1_adds) 0 rfl rfl 5 (by decide) kX1_adds_2 rfl rfl dX1_adds_65 ?_
      refine x_iload_n (pc := 68) K dX1_adds_68 3 rfl rfl ?_
      have g9 := h.1
      replace h := h.2
      refine x_lald (pc := 69) K 5 1 rfl rfl g9 dX1_adds_69 ?_
      clear g9
      refine x_ladd (pc := 70) K dX1_adds_70 ?_
      have g9 := h.1
      replace h := h.2
      refine x_last (ws' := (wX1 cI cJ cZ cA V cel tint cells near there ways (vp_updL more ((x3 ||| u1).toNatClampNeg) ((more (x3 ||| u1).toNatClampNeg) + (ways x3.toNatClampNeg))) thrown)) (pc := 71) K 6 1 rfl rfl rfl g9 dX1_adds_71 ?_
      clear g9
      refine x_iload_n (pc := 72) K dX1_adds_72 3 rfl rfl ?_
      refine x_if_ne (pc := 73) K dX1_adds_73 (tgt := 80) (by decide) (fun c9 => ?_) (fun c9 => ?_)
      · have h := h.1 c9
        refine x_iload_n (pc := 80) K dX1_adds_80 3 rfl rfl ?_
        refine x_iconst (v := (1)) (pc := 81) K dX1_adds_81 (by decide) ?_
        refine x_isub (pc := 82) K dX1_adds_82 ?_
        refine x_iload_n (pc := 83) K dX1_adds_83 2 rfl rfl ?_
        refine x_iand (pc := 84) K dX1_adds_84 ?_
        refine x_keep [true, true, true, false] rfl ?_
        obtain ⟨y7, ey7, h⟩ := xl_o h
        refine x_topi ey7 ?_
        clear ey7
        refine x_istore_n (lv' := [(0, .ref (V 0)), (1, .int u1), (2, .int u2), (3, .int y7)]) (pc := 85) K dX1_adds_85 rfl (by decide) rfl ?_
        refine x_goto (pc := 86) K dX1_adds_86 (tgt := 51) (by decide) ?_
        exact ih y7 (vp_updL more ((x3 ||| u1).toNatClampNeg) ((more (x3 ||| u1).toNatClampNeg) + (ways x3.toNatClampNeg))) h k0
      · have h := h.2 c9
        refine x_keep [true, true, true, false] rfl ?_
        refine x_iconst (v := (-1)) (pc := 76) K dX1_adds_76 (by decide) ?_
        refine x_goto (pc := 77) K dX1_adds_77 (tgt := 85) (by decide) ?_
        refine x_istore_n (lv' := [(0, .ref (V 0)), (1, .int u1), (2, .int u2), (3, .int (-1 : Int32))]) (pc := 85) K dX1_adds_85 rfl (by decide) rfl ?_
        refine x_goto (pc := 86) K dX1_adds_86 (tgt := 51) (by decide) ?_
        exact ih (-1 : Int32) (vp_updL more ((x3 ||| u1).toNatClampNeg) ((more (x3 ||| u1).toNatClampNeg) + (ways x3.toNatClampNeg))) h k0
set_option maxHeartbeats 4000000 in
set_option maxRecDepth 100000 in
theorem w_X1_adds_L24 {X : xC} {l : Launch} {D : va_G} {cI cJ cZ cA : ClassId} {V : Nat → Nat} (K : xk X l rm_X1_adds D vwCl (xtys cI cJ cZ cA) cX1_adds RX1 wsX1_adds 4) (cel : Nat → Int32) (tint : Nat → Int32) (cells : Nat → Int64) (near : Nat → Int32) (there : Int32) (ways : Nat → Int64) (thrown : Int32) (P0 : (Nat → Int64) → Prop) : ∀ (n : Nat) (x1 : Int32) (more : Nat → Int64), q_X1_adds_L24 near there ways P0 n x1 more → (∀ (z0 : Nat → Int64), P0 z0 → xw X 0 0 95 [(0, .ref (V 0))] [] (wX1 cI cJ cZ cA V cel tint cells near there ways z0 thrown)) → xw X 0 0 24 [(0, .ref (V 0)), (1, .int x1)] [] (wX1 cI cJ cZ cA V cel tint cells near there ways more thrown) := by
  intro n
  induction n with
  | zero =>
    intro x1 more h
    rw [q_X1_adds_L24] at h
    exact h.elim
  | succ n ih =>
    intro x1 more h k0
    rw [q_X1_adds_L24] at h
    refine x_iload_n (pc := 24) K dX1_adds_24 1 rfl rfl ?_
    refine x_sipush (v := (1024)) (pc := 25) K dX1_adds_25 (by decide) ?_
    refine x_icmp_ge (pc := 28) K dX1_adds_28 (tgt := 95) (by decide) (fun c9 => ?_) (fun c9 => ?_)
    · have h := h.1 c9
      refine x_keep [true, false] rfl ?_
      exact k0 more h
    · have h := h.2 c9
      refine x_aload_n (pc := 31) K dX1_adds_31 0 rfl rfl ?_
      refine x_iload_n (pc := 32) K dX1_adds_32 1 rfl rfl ?_
      refine x_iconst (v := (0)) (pc := 33) K dX1_adds_33 (by decide) ?_
      refine x_callVz (pc := 34) (n := 2) K (c_X1_areNear l D cI cJ cZ cA V x1 (0 : Int32) cel tint cells near there ways more thrown _ h) rfl rfl gX1_adds_X1_areNear rfl (by decide +kernel) ⟨Nat.le_of_ble_eq_true rfl, Nat.le_of_ble_eq_true rfl⟩ rfl (av := [.int x1, .int (0 : Int32)]) (b := V 0) (ci := 1) (q0 := 0) rfl rfl rfl (Nat.le_of_ble_eq_true rfl) [0, 1, 2, 3, 4, 5, 6] [] (wr := []) rfl rfl rfl rfl (by decide) dX1_adds_34 ⟨Nat.le_of_ble_eq_true rfl, Nat.le_of_ble_eq_true rfl⟩ (fun r4 u9 h => ?_)
      refine x_ws (ws' := (wX1 cI cJ cZ cA V cel tint cells near there ways more thrown)) rfl ?_
      refine x_if_eq (pc := 37) K dX1_adds_37 (tgt := 89) (by decide) (fun c9 => ?_) (fun c9 => ?_)
      · have h := h.1 c9
        refine x_iinc (v := x1 + (1 : Int32)) (lv' := [(0, .ref (V 0)), (1, .int (x1 + (1 : Int32)))]) (pc := 89) K dX1_adds_89 (k := 1) rfl rfl (by decide) rfl ?_
        refine x_goto (pc := 92) K dX1_adds_92 (tgt := 24) (by decide) ?_
        exact ih (x1 + (1 : Int32)) more h k0
      · have h := h.2 c9
        refine x_aload_n (pc := 40) K dX1_adds_40 0 rfl rfl ?_
        refine x_get (pc := 41) (ci := 1) (C := RX1) (T := TX1) (N := 8) K (inX1_adds) 0 rfl rfl 4 (by decide) kX1_adds_1 rfl rfl dX1_adds_41 ?_
        refine x_iload_n (pc := 44) K dX1_adds_44 1 rfl rfl ?_
        refine x_iconst (v := (-1)) (pc := 45) K dX1_adds_45 (by decide) ?_
        refine x_ixor (pc := 46) K dX1_adds_46 ?_
        refine x_iand (pc := 47) K dX1_adds_47 ?_
        obtain ⟨y5, ey5, h⟩ := xl_o h
        refine x_topi ey5 ?_
        clear ey5
        refine x_istore_n (lv' := [(0, .ref (V 0)), (1, .int x1), (2, .int y5)]) (pc := 48) K dX1_adds_48 rfl (by decide) rfl ?_
        refine x_iload_n (pc := 49) K dX1_adds_49 2 rfl rfl ?_
        refine x_istore_n (lv' := [(0, .ref (V 0)), (1, .int x1), (2, .int y5), (3, .int y5)]) (pc := 50) K dX1_adds_50 rfl (by decide) rfl ?_
        obtain ⟨n8, h⟩ := h
        refine w_X1_adds_L51 K x1 y5 cel tint cells near there ways thrown _ n8 y5 more h (fun v9 h => ?_)
        refine x_iinc (v := x1 + (1 : Int32)) (lv' := [(0, .ref (V 0)), (1, .int (x1 + (1 : Int32)))]) (pc := 89) K dX1_adds_89 (k := 1) rfl rfl (by decide) rfl ?_
        refine x_goto (pc := 92) K dX1_adds_92 (tgt := 24) (by decide) ?_
        exact ih (x1 + (1 : Int32)) v9 h k0
set_option maxHeartbeats 4000000 in
set_option maxRecDepth 100000 in
theorem w_X1_adds_L97 {X : xC} {l : Launch} {D : va_G} {cI cJ cZ cA : ClassId} {V : Nat → Nat} (K : xk X l rm_X1_adds D vwCl (xtys cI cJ cZ cA) cX1_adds RX1 wsX1_adds 4) (cel : Nat → Int32) (tint : Nat → Int32) (cells : Nat → Int64) (near : Nat → Int32) (there : Int32) (more : Nat → Int64) (thrown : Int32) (P0 : (Nat → Int64) → Prop) : ∀ (n : Nat) (x1 : Int32) (ways : Nat → Int64), q_X1_adds_L97 more P0 n x1 ways → (∀ (z0 : Nat → Int64), P0 z0 → xw X 0 0 122 [] [] (wX1 cI cJ cZ cA V cel tint cells near there z0 more thrown)) → xw X 0 0 97 [(0, .ref (V 0)), (1, .int x1)] [] (wX1 cI cJ cZ cA V cel tint cells near there ways more thrown) := by
  intro n
  induction n with
  | zero =>
    intro x1 ways h
    rw [q_X1_adds_L97] at h
    exact h.elim
  | succ n ih =>
    intro x1 ways h k0
    rw [q_X1_adds_L97] at h
    refine x_iload_n (pc := 97) K dX1_adds_97 1 rfl rfl ?_
    refine x_sipush (v := (1024)) (pc := 98) K dX1_adds_98 (by decide) ?_
    refine x_icmp_ge (pc := 101) K dX1_adds_101 (tgt := 122) (by decide) (fun c9 => ?_) (fun c9 => ?_)
    · have h := h.1 c9
      refine x_keep [false, false] rfl ?_
      exact k0 ways h
    · have h := h.2 c9
      refine x_aload_n (pc := 104) K dX1_adds_104 0 rfl rfl ?_
      refine x_get (pc := 105) (ci := 1) (C := RX1) (T := TX1) (N := 8) K (inX1_adds) 0 rfl rfl 5 (by decide) kX1_adds_2 rfl rfl dX1_adds_105 ?_
      refine x_iload_n (pc := 108) K dX1_adds_108 1 rfl rfl ?_
      refine x_aload_n (pc := 109) K dX1_adds_109 0 rfl rfl ?_
      refine x_get (pc := 110) (ci := 1) (C := RX1) (T := TX1) (N := 8) K (inX1_adds) 0 rfl rfl 6 (by decide) kX1_adds_0 rfl rfl dX1_adds_110 ?_
      refine x_iload_n (pc := 113) K dX1_adds_113 1 rfl rfl ?_
      have g9 := h.1
      replace h := h.2
      refine x_lald (pc := 114) K 6 1 rfl rfl g9 dX1_adds_114 ?_
      clear g9
      have g9 := h.1
      replace h := h.2
      refine x_last (ws' := (wX1 cI cJ cZ cA V cel tint cells near there (vp_updL ways x1.toNatClampNeg (more x1.toNatClampNeg)) more thrown)) (pc := 115) K 5 1 rfl rfl rfl g9 dX1_adds_115 ?_
      clear g9
      refine x_iinc (v := x1 + (1 : Int32)) (lv' := [(0, .ref (V 0)), (1, .int (x1 + (1 : Int32)))]) (pc := 116) K dX1_adds_116 (k := 1) rfl rfl (by decide) rfl ?_
      refine x_goto (pc := 119) K dX1_adds_119 (tgt := 97) (by decide) ?_
      exact ih (x1 + (1 : Int32)) (vp_updL ways x1.toNatClampNeg (more x1.toNatClampNeg)) h k0
set_option maxHeartbeats 4000000 in
set_option maxRecDepth 100000 in
theorem c_X1_adds (l : Launch) (D : va_G) (cI cJ cZ cA : ClassId) (V : Nat → Nat) (cel : Nat → Int32) (tint : Nat → Int32) (cells : Nat → Int64) (near : Nat → Int32) (there : Int32) (ways : Nat → Int64) (more : Nat → Int64) (thrown : Int32) (P : (Nat → Int64) → (Nat → Int64) → Prop) (h : q_X1_adds near there ways more P) : xMv l yX1_adds wsX1_adds rm_X1_adds D vwCl (xtys cI cJ cZ cA) (wX1 cI cJ cZ cA V cel tint cells near there ways more thrown) [.ref (V 0)] (σ := (Nat → Int64) × (Nat → Int64)) (fun u => (wX1 cI cJ cZ cA V cel tint cells near there u.1 u.2 thrown)) (fun u => P u.1 u.2) := by
  refine xMv_of (cc := cX1_adds) (maxL := 4) (by decide) rfl (Nat.le_of_ble_eq_true rfl) ?_
  intro X K hE
  have K : xk X l rm_X1_adds D vwCl (xtys cI cJ cZ cA) cX1_adds RX1 wsX1_adds 4 := K
  unfold q_X1_adds at h
  refine x_iconst (v := (0)) (pc := 0) K dX1_adds_0 (by decide) ?_
  refine x_istore_n (lv' := [(0, .ref (V 0)), (1, .int (0 : Int32))]) (pc := 1) K dX1_adds_1 rfl (by decide) rfl ?_
  obtain ⟨n2, h⟩ := h
  refine w_X1_adds_L2 K cel tint cells near there ways thrown _ n2 (0 : Int32) more h (fun v3 h => ?_)
  refine x_iconst (v := (0)) (pc := 22) K dX1_adds_22 (by decide) ?_
  refine x_istore_n (lv' := [(0, .ref (V 0)), (1, .int (0 : Int32))]) (pc := 23) K dX1_adds_23 rfl (by decide) rfl ?_
  obtain ⟨n10, h⟩ := h
  refine w_X1_adds_L24 K cel tint cells near there ways thrown _ n10 (0 : Int32) v3 h (fun v11 h => ?_)
  refine x_iconst (v := (0)) (pc := 95) K dX1_adds_95 (by decide) ?_
  refine x_istore_n (lv' := [(0, .ref (V 0)), (1, .int (0 : Int32))]) (pc := 96) K dX1_adds_96 rfl (by decide) rfl ?_
  obtain ⟨n13, h⟩ := h
  refine w_X1_adds_L97 K cel tint cells near there v11 thrown _ n13 (0 : Int32) ways h (fun v14 h => ?_)
  exact hE (v14, v11) _ _ h dX1_adds_122
abbrev rm_X1_fewest : Room := { frames := 11, cells := 0, slots := 0, locals := 240 }
theorem inX1_fewest : ∀ w ∈ u_ws RX1 TX1 8, w ∈ wsX1_fewest := by decide +kernel
theorem kX1_fewest_0 : Cond.fieldLink RX1 23 "FourTintsModel" "ways" "[J" ∈ wsX1_fewest := by decide +kernel
theorem kX1_fewest_1 : Cond.fieldLink RX1 47 "FourTintsModel" "there" "I" ∈ wsX1_fewest := by decide +kernel
def q_X1_fewest_L6 (near : Nat → Int32) (there : Int32) (P0 : Int32 → (Nat → Int64) → (Nat → Int64) → Prop) : Nat → Int32 → (Nat → Int64) → (Nat → Int64) → Prop
  | 0, _, _, _ => False
  | n + 1, x1, ways, more => xin there 1024 = true ∧ ((¬ (lg_cmp (ways there.toNatClampNeg) (0 : Int64)) = (0 : Int32) → P0 x1 ways more) ∧ ((lg_cmp (ways there.toNatClampNeg) (0 : Int64)) = (0 : Int32) → q_X1_adds near there ways more (fun (ways_5 : Nat → Int64) (more_6 : Nat → Int64) => q_X1_fewest_L6 near there P0 n (x1 + (1 : Int32)) ways_5 more_6)))
def q_X1_fewest (cel : Nat → Int32) (cells : Nat → Int64) (near : Nat → Int32) (ways : Nat → Int64) (more : Nat → Int64) (P : Int32 → (Nat → Int64) → (Nat → Int32) → Int32 → (Nat → Int64) → (Nat → Int64) → Prop) : Prop := q_X1_begins cel cells near ways (fun (cells_1 : Nat → Int64) (near_2 : Nat → Int32) (there_3 : Int32) (ways_4 : Nat → Int64) => (∃ n7 : Nat, q_X1_fewest_L6 near_2 there_3 (fun (v8 : Int32) (v9 : Nat → Int64) (v10 : Nat → Int64) => P v8 cells_1 near_2 there_3 v9 v10) n7 (0 : Int32) ways_4 more))
set_option maxHeartbeats 4000000 in
set_option maxRecDepth 100000 in
theorem w_X1_fewest_L6 {X : xC} {l : Launch} {D : va_G} {cI cJ cZ cA : ClassId} {V : Nat → Nat} (K : xk X l rm_X1_fewest D vwCl (xtys cI cJ cZ cA) cX1_fewest RX1 wsX1_fewest 2) (cel : Nat → Int32) (tint : Nat → Int32) (cells : Nat → Int64) (near : Nat → Int32) (there : Int32) (thrown : Int32) (P0 : Int32 → (Nat → Int64) → (Nat → Int64) → Prop) : ∀ (n : Nat) (x1 : Int32) (ways : Nat → Int64) (more : Nat → Int64), q_X1_fewest_L6 near there P0 n x1 ways more → (∀ (z0 : Int32) (z1 : Nat → Int64) (z2 : Nat → Int64), P0 z0 z1 z2 → xw X 0 0 30 [(1, .int z0)] [] (wX1 cI cJ cZ cA V cel tint cells near there z1 z2 thrown)) → xw X 0 0 6 [(0, .ref (V 0)), (1, .int x1)] [] (wX1 cI cJ cZ cA V cel tint cells near there ways more thrown) := by
  intro n
  induction n with
  | zero =>
    intro x1 ways more h
    rw [q_X1_fewest_L6] at h
    exact h.elim
  | succ n ih =>
    intro x1 ways more h k0
    rw [q_X1_fewest_L6] at h
    refine x_aload_n (pc := 6) K dX1_fewest_6 0 rfl rfl ?_
    refine x_get (pc := 7) (ci := 1) (C := RX1) (T := TX1) (N := 8) K (inX1_fewest) 0 rfl rfl 5 (by decide) kX1_fewest_0 rfl rfl dX1_fewest_7 ?_
    refine x_aload_n (pc := 10) K dX1_fewest_10 0 rfl rfl ?_
    refine x_get (pc := 11) (ci := 1) (C := RX1) (T := TX1) (N := 8) K (inX1_fewest) 0 rfl rfl 4 (by decide) kX1_fewest_1 rfl rfl dX1_fewest_11 ?_
    have g9 := h.1
    replace h := h.2
    refine x_lald (pc := 14) K 5 1 rfl rfl g9 dX1_fewest_14 ?_
    clear g9
    refine x_lconst (v := (0)) (pc := 15) K dX1_fewest_15 (by decide) ?_
    refine x_lcmp (pc := 16) K dX1_fewest_16 ?_
    refine x_if_ne (pc := 17) K dX1_fewest_17 (tgt := 30) (by decide) (fun c9 => ?_) (fun c9 => ?_)
    · have h := h.1 c9
      refine x_keep [false, true] rfl ?_
      exact k0 x1 ways more h
    · have h := h.2 c9
      refine x_aload_n (pc := 20) K dX1_fewest_20 0 rfl rfl ?_
      refine x_callVv (pc := 21) (n := 0) K (c_X1_adds l D cI cJ cZ cA V cel tint cells near there ways more thrown _ h) rfl rfl gX1_fewest_X1_adds rfl (by decide +kernel) ⟨Nat.le_of_ble_eq_true rfl, Nat.le_of_ble_eq_true rfl⟩ rfl (av := []) (b := V 0) (ci := 1) (q0 := 0) rfl rfl rfl (Nat.le_of_ble_eq_true rfl) [0, 1, 2, 3, 4, 5, 6] [] (wr := []) rfl rfl rfl rfl (by decide) dX1_fewest_21 ⟨Nat.le_of_ble_eq_true rfl, Nat.le_of_ble_eq_true rfl⟩ (fun u9 h => ?_)
      obtain ⟨ways_5, more_6⟩ := u9
      refine x_ws (ws' := (wX1 cI cJ cZ cA V cel tint cells near there ways_5 more_6 thrown)) rfl ?_
      refine x_iinc (v := x1 + (1 : Int32)) (lv' := [(0, .ref (V 0)), (1, .int (x1 + (1 : Int32)))]) (pc := 24) K dX1_fewest_24 (k := 1) rfl rfl (by decide) rfl ?_
      refine x_goto (pc := 27) K dX1_fewest_27 (tgt := 6) (by decide) ?_
      exact ih (x1 + (1 : Int32)) ways_5 more_6 h k0
set_option maxHeartbeats 4000000 in
set_option maxRecDepth 100000 in
theorem c_X1_fewest (l : Launch) (D : va_G) (cI cJ cZ cA : ClassId) (V : Nat → Nat) (cel : Nat → Int32) (tint : Nat → Int32) (cells : Nat → Int64) (near : Nat → Int32) (there : Int32) (ways : Nat → Int64) (more : Nat → Int64) (thrown : Int32) (P : Int32 → (Nat → Int64) → (Nat → Int32) → Int32 → (Nat → Int64) → (Nat → Int64) → Prop) (h : q_X1_fewest cel cells near ways more P) : xMi l yX1_fewest wsX1_fewest rm_X1_fewest D vwCl (xtys cI cJ cZ cA) (wX1 cI cJ cZ cA V cel tint cells near there ways more thrown) [.ref (V 0)] (σ := (Nat → Int64) × (Nat → Int32) × Int32 × (Nat → Int64) × (Nat → Int64)) (fun u => (wX1 cI cJ cZ cA V cel tint u.1 u.2.1 u.2.2.1 u.2.2.2.1 u.2.2.2.2 thrown)) (fun r u => P r u.1 u.2.1 u.2.2.1 u.2.2.2.1 u.2.2.2.2) := by
  refine xMi_of (cc := cX1_fewest) (maxL := 2) (by decide) rfl (Nat.le_of_ble_eq_true rfl) ?_
  intro X K hE
  have K : xk X l rm_X1_fewest D vwCl (xtys cI cJ cZ cA) cX1_fewest RX1 wsX1_fewest 2 := K
  unfold q_X1_fewest at h
  refine x_aload_n (pc := 0) K dX1_fewest_0 0 rfl rfl ?_
  refine x_callVv (pc := 1) (n := 0) K (c_X1_begins l D cI cJ cZ cA V cel tint cells near there ways more thrown _ h) rfl rfl gX1_fewest_X1_begins rfl (by decide +kernel) ⟨Nat.le_of_ble_eq_true rfl, Nat.le_of_ble_eq_true rfl⟩ rfl (av := []) (b := V 0) (ci := 1) (q0 := 0) rfl rfl rfl (Nat.le_of_ble_eq_true rfl) [0, 1, 2, 3, 4, 5, 6] [] (wr := []) rfl rfl rfl rfl (by decide) dX1_fewest_1 ⟨Nat.le_of_ble_eq_true rfl, Nat.le_of_ble_eq_true rfl⟩ (fun u9 h => ?_)
  obtain ⟨cells_1, near_2, there_3, ways_4⟩ := u9
  refine x_ws (ws' := (wX1 cI cJ cZ cA V cel tint cells_1 near_2 there_3 ways_4 more thrown)) rfl ?_
  refine x_iconst (v := (0)) (pc := 4) K dX1_fewest_4 (by decide) ?_
  refine x_istore_n (lv' := [(0, .ref (V 0)), (1, .int (0 : Int32))]) (pc := 5) K dX1_fewest_5 rfl (by decide) rfl ?_
  obtain ⟨n7, h⟩ := h
  refine w_X1_fewest_L6 K cel tint cells_1 near_2 there_3 thrown _ n7 (0 : Int32) ways_4 more h (fun v8 v9 v10 h => ?_)
  refine x_iload_n (pc := 30) K dX1_fewest_30 0 rfl rfl ?_
  exact hE v8 (cells_1, near_2, there_3, v9, v10) _ _ h dX1_fewest_31
abbrev rm_X1_fewestTints : Room := { frames := 12, cells := 0, slots := 0, locals := 280 }
def q_X1_fewestTints (cel : Nat → Int32) (cells : Nat → Int64) (near : Nat → Int32) (ways : Nat → Int64) (more : Nat → Int64) (P : Int32 → (Nat → Int64) → (Nat → Int32) → Int32 → (Nat → Int64) → (Nat → Int64) → Int32 → Prop) : Prop := q_X1_fewest cel cells near ways more (fun (r6 : Int32) (cells_1 : Nat → Int64) (near_2 : Nat → Int32) (there_3 : Int32) (ways_4 : Nat → Int64) (more_5 : Nat → Int64) => q_X1_told r6 (fun (r8 : Int32) (thrown_7 : Int32) => P r8 cells_1 near_2 there_3 ways_4 more_5 thrown_7))
set_option maxHeartbeats 4000000 in
set_option maxRecDepth 100000 in
theorem c_X1_fewestTints (l : Launch) (D : va_G) (cI cJ cZ cA : ClassId) (V : Nat → Nat) (cel : Nat → Int32) (tint : Nat → Int32) (cells : Nat → Int64) (near : Nat → Int32) (there : Int32) (ways : Nat → Int64) (more : Nat → Int64) (thrown : Int32) (P : Int32 → (Nat → Int64) → (Nat → Int32) → Int32 → (Nat → Int64) → (Nat → Int64) → Int32 → Prop) (h : q_X1_fewestTints cel cells near ways more P) : xMi l yX1_fewestTints wsX1_fewestTints rm_X1_fewestTints D vwCl (xtys cI cJ cZ cA) (wX1 cI cJ cZ cA V cel tint cells near there ways more thrown) [.ref (V 0)] (σ := (Nat → Int64) × (Nat → Int32) × Int32 × (Nat → Int64) × (Nat → Int64) × Int32) (fun u => (wX1 cI cJ cZ cA V cel tint u.1 u.2.1 u.2.2.1 u.2.2.2.1 u.2.2.2.2.1 u.2.2.2.2.2)) (fun r u => P r u.1 u.2.1 u.2.2.1 u.2.2.2.1 u.2.2.2.2.1 u.2.2.2.2.2) := by
  refine xMi_of (cc := cX1_fewestTints) (maxL := 1) (by decide) rfl (Nat.le_of_ble_eq_true rfl) ?_
  intro X K hE
  have K : xk X l rm_X1_fewestTints D vwCl (xtys cI cJ cZ cA) cX1_fewestTints RX1 wsX1_fewestTints 1 := K
  unfold q_X1_fewestTints at h
  refine x_aload_n (pc := 0) K dX1_fewestTints_0 0 rfl rfl ?_
  refine x_aload_n (pc := 1) K dX1_fewestTints_1 0 rfl rfl ?_
  refine x_callVi (pc := 2) (n := 0) K (c_X1_fewest l D cI cJ cZ cA V cel tint cells near there ways more thrown _ h) rfl rfl gX1_fewestTints_X1_fewest rfl (by decide +kernel) ⟨Nat.le_of_ble_eq_true rfl, Nat.le_of_ble_eq_true rfl⟩ rfl (av := []) (b := V 0) (ci := 1) (q0 := 0) rfl rfl rfl (Nat.le_of_ble_eq_true rfl) [0, 1, 2, 3, 4, 5, 6] [] (wr := []) rfl rfl rfl rfl (by decide) dX1_fewestTints_2 ⟨Nat.le_of_ble_eq_true rfl, Nat.le_of_ble_eq_true rfl⟩ (fun r6 u9 h => ?_)
  obtain ⟨cells_1, near_2, there_3, ways_4, more_5⟩ := u9
  refine x_ws (ws' := (wX1 cI cJ cZ cA V cel tint cells_1 near_2 there_3 ways_4 more_5 thrown)) rfl ?_
  refine x_callVi (pc := 5) (n := 1) K (c_X1_told l D cI cJ cZ cA V r6 cel tint cells_1 near_2 there_3 ways_4 more_5 thrown _ h) rfl rfl gX1_fewestTints_X1_told rfl (by decide +kernel) ⟨Nat.le_of_ble_eq_true rfl, Nat.le_of_ble_eq_true rfl⟩ rfl (av := [.int r6]) (b := V 0) (ci := 1) (q0 := 0) rfl rfl rfl (Nat.le_of_ble_eq_true rfl) [0, 1, 2, 3, 4, 5, 6] [] (wr := []) rfl rfl rfl rfl (by decide) dX1_fewestTints_5 ⟨Nat.le_of_ble_eq_true rfl, Nat.le_of_ble_eq_true rfl⟩ (fun r8 thrown_7 h => ?_)
  refine x_ws (ws' := (wX1 cI cJ cZ cA V cel tint cells_1 near_2 there_3 ways_4 more_5 thrown_7)) rfl ?_
  exact hE r8 (cells_1, near_2, there_3, ways_4, more_5, thrown_7) _ _ h dX1_fewestTints_8
abbrev rm_X1_isApart : Room := { frames := 8, cells := 0, slots := 0, locals := 120 }
theorem inX1_isApart : ∀ w ∈ u_ws RX1 TX1 8, w ∈ wsX1_isApart := by decide +kernel
theorem kX1_isApart_0 : Cond.fieldLink RX1 20 "FourTintsModel" "near" "[I" ∈ wsX1_isApart := by decide +kernel
theorem kX1_isApart_1 : Cond.fieldLink RX1 13 "FourTintsModel" "tint" "[I" ∈ wsX1_isApart := by decide +kernel
def q_X1_isApart_L4 (u1 : Int32) (tint : Nat → Int32) (near : Nat → Int32) (P0 : Int32 → Prop) : Nat → Int32 → Int32 → Prop
  | 0, _, _ => False
  | n + 1, x2, x3 => ((u1 ≤ x3 → P0 x2) ∧ (¬ u1 ≤ x3 → ((x2 = (0 : Int32) → q_X1_isApart_L4 u1 tint near P0 n (0 : Int32) (x3 + (1 : Int32))) ∧ (¬ x2 = (0 : Int32) → xin u1 10 = true ∧ (((((near u1.toNatClampNeg) >>> (x3 &&& 31)) &&& (1 : Int32)) = (0 : Int32) → q_X1_isApart_L4 u1 tint near P0 n (1 : Int32) (x3 + (1 : Int32))) ∧ (¬ (((near u1.toNatClampNeg) >>> (x3 &&& 31)) &&& (1 : Int32)) = (0 : Int32) → xin x3 10 = true ∧ xin u1 10 = true ∧ (((tint x3.toNatClampNeg) = (tint u1.toNatClampNeg) → q_X1_isApart_L4 u1 tint near P0 n (0 : Int32) (x3 + (1 : Int32))) ∧ (¬ (tint x3.toNatClampNeg) = (tint u1.toNatClampNeg) → q_X1_isApart_L4 u1 tint near P0 n (1 : Int32) (x3 + (1 : Int32))))))))))
def q_X1_isApart (p1 : Int32) (tint : Nat → Int32) (near : Nat → Int32) (P : Int32 → Prop) : Prop := (∃ n1 : Nat, q_X1_isApart_L4 p1 tint near (fun (v2 : Int32) => (xbool v2 ∧ P v2)) n1 (1 : Int32) (0 : Int32))
set_option maxHeartbeats 4000000 in
set_option maxRecDepth 100000 in
theorem w_X1_isApart_L4 {X : xC} {l : Launch} {D : va_G} {cI cJ cZ cA : ClassId} {V : Nat → Nat} (K : xk X l rm_X1_isApart D vwCl (xtys cI cJ cZ cA) cX1_isApart RX1 wsX1_isApart 4) (u1 : Int32) (cel : Nat → Int32) (tint : Nat → Int32) (cells : Nat → Int64) (near : Nat → Int32) (there : Int32) (ways : Nat → Int64) (more : Nat → Int64) (thrown : Int32) (P0 : Int32 → Prop) : ∀ (n : Nat) (x2 : Int32) (x3 : Int32), q_X1_isApart_L4 u1 tint near P0 n x2 x3 → (∀ (z0 : Int32), P0 z0 → xw X 0 0 53 [(2, .int z0)] [] (wX1 cI cJ cZ cA V cel tint cells near there ways more thrown)) → xw X 0 0 4 [(0, .ref (V 0)), (1, .int u1), (2, .int x2), (3, .int x3)] [] (wX1 cI cJ cZ cA V cel tint cells near there ways more thrown) := by
  intro n
  induction n with
  | zero =>
    intro x2 x3 h
    rw [q_X1_isApart_L4] at h
    exact h.elim
  | succ n ih =>
    intro x2 x3 h k0
    rw [q_X1_isApart_L4] at h
    refine x_iload_n (pc := 4) K dX1_isApart_4 3 rfl rfl ?_
    refine x_iload_n (pc := 5) K dX1_isApart_5 1 rfl rfl ?_
    refine x_icmp_ge (pc := 6) K dX1_isApart_6 (tgt := 53) (by decide) (fun c9 => ?_) (fun c9 => ?_)
    · have h := h.1 c9
      refine x_keep [false, false, true, false] rfl ?_
      exact k0 x2 h
    · have h := h.2 c9
      refine x_iload_n (pc := 9) K dX1_isApart_9 2 rfl rfl ?_
      refine x_if_eq (pc := 10) K dX1_isApart_10 (tgt := 45) (by decide) (fun c9 => ?_) (fun c9 => ?_)
      · have h := h.1 c9
        refine x_keep [true, true, false, true] rfl ?_
        refine x_iconst (v := (0)) (pc := 45) K dX1_isApart_45 (by decide) ?_
        refine x_istore_n (lv' := [(0, .ref (V 0)), (1, .int u1), (2, .int (0 : Int32)), (3, .int x3)]) (pc := 46) K dX1_isApart_46 rfl (by decide) rfl ?_
        refine x_iinc (v := x3 + (1 : Int32)) (lv' := [(0, .ref (V 0)), (1, .int u1), (2, .int (0 : Int32)), (3, .int (x3 + (1 : Int32)))]) (pc := 47) K dX1_isApart_47 (k := 3) rfl rfl (by decide) rfl ?_
        refine x_goto (pc := 50) K dX1_isApart_50 (tgt := 4) (by decide) ?_
        exact ih (0 : Int32) (x3 + (1 : Int32)) h k0
      · have h := h.2 c9
        refine x_keep [true, true, false, true] rfl ?_
        refine x_aload_n (pc := 13) K dX1_isApart_13 0 rfl rfl ?_
        refine x_get (pc := 14) (ci := 1) (C := RX1) (T := TX1) (N := 8) K (inX1_isApart) 0 rfl rfl 3 (by decide) kX1_isApart_0 rfl rfl dX1_isApart_14 ?_
        refine x_iload_n (pc := 17) K dX1_isApart_17 1 rfl rfl ?_
        have g9 := h.1
        replace h := h.2
        refine x_iald (pc := 18) K 4 0 rfl rfl g9 dX1_isApart_18 ?_
        clear g9
        refine x_iload_n (pc := 19) K dX1_isApart_19 2 rfl rfl ?_
        refine x_ishr (pc := 20) K dX1_isApart_20 ?_
        refine x_iconst (v := (1)) (pc := 21) K dX1_isApart_21 (by decide) ?_
        refine x_iand (pc := 22) K dX1_isApart_22 ?_
        refine x_if_eq (pc := 23) K dX1_isApart_23 (tgt := 41) (by decide) (fun c9 => ?_) (fun c9 => ?_)
        · have h := h.1 c9
          refine x_iconst (v := (1)) (pc := 41) K dX1_isApart_41 (by decide) ?_
          refine x_goto (pc := 42) K dX1_isApart_42 (tgt := 46) (by decide) ?_
          refine x_istore_n (lv' := [(0, .ref (V 0)), (1, .int u1), (2, .int (1 : Int32)), (3, .int x3)]) (pc := 46) K dX1_isApart_46 rfl (by decide) rfl ?_
          refine x_iinc (v := x3 + (1 : Int32)) (lv' := [(0, .ref (V 0)), (1, .int u1), (2, .int (1 : Int32)), (3, .int (x3 + (1 : Int32)))]) (pc := 47) K dX1_isApart_47 (k := 3) rfl rfl (by decide) rfl ?_
          refine x_goto (pc := 50) K dX1_isApart_50 (tgt := 4) (by decide) ?_
          exact ih (1 : Int32) (x3 + (1 : Int32)) h k0
        · have h := h.2 c9
          refine x_aload_n (pc := 26) K dX1_isApart_26 0 rfl rfl ?_
          refine x_get (pc := 27) (ci := 1) (C := RX1) (T := TX1) (N := 8) K (inX1_isApart) 0 rfl rfl 1 (by decide) kX1_isApart_1 rfl rfl dX1_isApart_27 ?_
          refine x_iload_n (pc := 30) K dX1_isApart_30 2 rfl rfl ?_
          have g9 := h.1
          replace h := h.2
          refine x_iald (pc := 31) K 2 0 rfl rfl g9 dX1_isApart_31 ?_
          clear g9
          refine x_aload_n (pc := 32) K dX1_isApart_32 0 rfl rfl ?_
          refine x_get (pc := 33) (ci := 1) (C := RX1) (T := TX1) (N := 8) K (inX1_isApart) 0 rfl rfl 1 (by decide) kX1_isApart_1 rfl rfl dX1_isApart_33 ?_
          refine x_iload_n (pc := 36) K dX1_isApart_36 1 rfl rfl ?_
          have g9 := h.1
          replace h := h.2
          refine x_iald (pc := 37) K 2 0 rfl rfl g9 dX1_isApart_37 ?_
          clear g9
          refine x_icmp_eq (pc := 38) K dX1_isApart_38 (tgt := 45) (by decide) (fun c9 => ?_) (fun c9 => ?_)
          · have h := h.1 c9
            refine x_iconst (v := (0)) (pc := 45) K dX1_isApart_45 (by decide) ?_
            refine x_istore_n (lv' := [(0, .ref (V 0)), (1, .int u1), (2, .int (0 : Int32)), (3, .int x3)]) (pc := 46) K dX1_isApart_46 rfl (by decide) rfl ?_
            refine x_iinc (v := x3 + (1 : Int32)) (lv' := [(0, .ref (V 0)), (1, .int u1), (2, .int (0 : Int32)), (3, .int (x3 + (1 : Int32)))]) (pc := 47) K dX1_isApart_47 (k := 3) rfl rfl (by decide) rfl ?_
            refine x_goto (pc := 50) K dX1_isApart_50 (tgt := 4) (by decide) ?_
            exact ih (0 : Int32) (x3 + (1 : Int32)) h k0
          · have h := h.2 c9
            refine x_iconst (v := (1)) (pc := 41) K dX1_isApart_41 (by decide) ?_
            refine x_goto (pc := 42) K dX1_isApart_42 (tgt := 46) (by decide) ?_
            refine x_istore_n (lv' := [(0, .ref (V 0)), (1, .int u1), (2, .int (1 : Int32)), (3, .int x3)]) (pc := 46) K dX1_isApart_46 rfl (by decide) rfl ?_
            refine x_iinc (v := x3 + (1 : Int32)) (lv' := [(0, .ref (V 0)), (1, .int u1), (2, .int (1 : Int32)), (3, .int (x3 + (1 : Int32)))]) (pc := 47) K dX1_isApart_47 (k := 3) rfl rfl (by decide) rfl ?_
            refine x_goto (pc := 50) K dX1_isApart_50 (tgt := 4) (by decide) ?_
            exact ih (1 : Int32) (x3 + (1 : Int32)) h k0
set_option maxHeartbeats 4000000 in
set_option maxRecDepth 100000 in
theorem c_X1_isApart (l : Launch) (D : va_G) (cI cJ cZ cA : ClassId) (V : Nat → Nat) (p1 : Int32) (cel : Nat → Int32) (tint : Nat → Int32) (cells : Nat → Int64) (near : Nat → Int32) (there : Int32) (ways : Nat → Int64) (more : Nat → Int64) (thrown : Int32) (P : Int32 → Prop) (h : q_X1_isApart p1 tint near P) : xMz l yX1_isApart wsX1_isApart rm_X1_isApart D vwCl (xtys cI cJ cZ cA) (wX1 cI cJ cZ cA V cel tint cells near there ways more thrown) [.ref (V 0), .int p1] (σ := Unit) (fun _ => (wX1 cI cJ cZ cA V cel tint cells near there ways more thrown)) (fun r _ => P r) := by
  refine xMz_of (cc := cX1_isApart) (maxL := 4) (by decide) rfl (Nat.le_of_ble_eq_true rfl) ?_
  intro X K hE
  have K : xk X l rm_X1_isApart D vwCl (xtys cI cJ cZ cA) cX1_isApart RX1 wsX1_isApart 4 := K
  unfold q_X1_isApart at h
  refine x_iconst (v := (1)) (pc := 0) K dX1_isApart_0 (by decide) ?_
  refine x_istore_n (lv' := [(0, .ref (V 0)), (1, .int p1), (2, .int (1 : Int32))]) (pc := 1) K dX1_isApart_1 rfl (by decide) rfl ?_
  refine x_iconst (v := (0)) (pc := 2) K dX1_isApart_2 (by decide) ?_
  refine x_istore_n (lv' := [(0, .ref (V 0)), (1, .int p1), (2, .int (1 : Int32)), (3, .int (0 : Int32))]) (pc := 3) K dX1_isApart_3 rfl (by decide) rfl ?_
  obtain ⟨n1, h⟩ := h
  refine w_X1_isApart_L4 K p1 cel tint cells near there ways more thrown _ n1 (1 : Int32) (0 : Int32) h (fun v2 h => ?_)
  refine x_iload_n (pc := 53) K dX1_isApart_53 0 rfl rfl ?_
  exact hE v2 () _ _ h.2 h.1 dX1_isApart_54
abbrev rm_X1_next : Room := { frames := 9, cells := 0, slots := 0, locals := 160 }
def q_X1_next_L4 (u2 : Int32) (there : Int32) (P0 : Int32 → Prop) : Nat → Int32 → Prop
  | 0, _ => False
  | n + 1, x3 => q_X1_in x3 (0 : Int32) (9 : Int32) (fun (r2 : Int32) => ((r2 = (0 : Int32) → P0 x3) ∧ (¬ r2 = (0 : Int32) → q_X1_isThere x3 there (fun (r3 : Int32) => ((¬ r3 = (0 : Int32) → P0 x3) ∧ (r3 = (0 : Int32) → xl (x3 + u2) (fun y4 => q_X1_next_L4 u2 there P0 n y4)))))))
def q_X1_next (p1 : Int32) (p2 : Int32) (there : Int32) (P : Int32 → Prop) : Prop := xl (p1 + p2) (fun y1 => (∃ n5 : Nat, q_X1_next_L4 p2 there (fun (v6 : Int32) => P v6) n5 y1))
set_option maxHeartbeats 4000000 in
set_option maxRecDepth 100000 in
theorem w_X1_next_L4 {X : xC} {l : Launch} {D : va_G} {cI cJ cZ cA : ClassId} {V : Nat → Nat} (K : xk X l rm_X1_next D vwCl (xtys cI cJ cZ cA) cX1_next RX1 wsX1_next 4) (u2 : Int32) (cel : Nat → Int32) (tint : Nat → Int32) (cells : Nat → Int64) (near : Nat → Int32) (there : Int32) (ways : Nat → Int64) (more : Nat → Int64) (thrown : Int32) (P0 : Int32 → Prop) : ∀ (n : Nat) (x3 : Int32), q_X1_next_L4 u2 there P0 n x3 → (∀ (z0 : Int32), P0 z0 → xw X 0 0 29 [(3, .int z0)] [] (wX1 cI cJ cZ cA V cel tint cells near there ways more thrown)) → xw X 0 0 4 [(0, .ref (V 0)), (2, .int u2), (3, .int x3)] [] (wX1 cI cJ cZ cA V cel tint cells near there ways more thrown) := by
  intro n
  induction n with
  | zero =>
    intro x3 h
    rw [q_X1_next_L4] at h
    exact h.elim
  | succ n ih =>
    intro x3 h k0
    rw [q_X1_next_L4] at h
    refine x_iload_n (pc := 4) K dX1_next_4 2 rfl rfl ?_
    refine x_iconst (v := (0)) (pc := 5) K dX1_next_5 (by decide) ?_
    refine x_bipush (v := (9)) (pc := 6) K dX1_next_6 (by decide) ?_
    refine x_pcallSz (pc := 8) (n := 3) K (c_X1_in l D cI cJ cZ cA x3 (0 : Int32) (9 : Int32) _ h) rfl rfl gX1_next_X1_in rfl (by decide +kernel) ⟨Nat.le_of_ble_eq_true rfl, Nat.le_of_ble_eq_true rfl⟩ rfl (av := [.int x3, .int (0 : Int32), .int (9 : Int32)]) rfl (Nat.le_of_ble_eq_true rfl) dX1_next_8 ⟨Nat.le_of_ble_eq_true rfl, Nat.le_of_ble_eq_true rfl⟩ (fun r2 u9 h => ?_)
    refine x_if_eq (pc := 11) K dX1_next_11 (tgt := 29) (by decide) (fun c9 => ?_) (fun c9 => ?_)
    · have h := h.1 c9
      refine x_keep [false, false, true] rfl ?_
      exact k0 x3 h
    · have h := h.2 c9
      refine x_aload_n (pc := 14) K dX1_next_14 0 rfl rfl ?_
      refine x_iload_n (pc := 15) K dX1_next_15 2 rfl rfl ?_
      refine x_callVz (pc := 16) (n := 1) K (c_X1_isThere l D cI cJ cZ cA V x3 cel tint cells near there ways more thrown _ h) rfl rfl gX1_next_X1_isThere rfl (by decide +kernel) ⟨Nat.le_of_ble_eq_true rfl, Nat.le_of_ble_eq_true rfl⟩ rfl (av := [.int x3]) (b := V 0) (ci := 1) (q0 := 0) rfl rfl rfl (Nat.le_of_ble_eq_true rfl) [0, 1, 2, 3, 4, 5, 6] [] (wr := []) rfl rfl rfl rfl (by decide) dX1_next_16 ⟨Nat.le_of_ble_eq_true rfl, Nat.le_of_ble_eq_true rfl⟩ (fun r3 u9 h => ?_)
      refine x_ws (ws' := (wX1 cI cJ cZ cA V cel tint cells near there ways more thrown)) rfl ?_
      refine x_if_ne (pc := 19) K dX1_next_19 (tgt := 29) (by decide) (fun c9 => ?_) (fun c9 => ?_)
      · have h := h.1 c9
        refine x_keep [false, false, true] rfl ?_
        exact k0 x3 h
      · have h := h.2 c9
        refine x_iload_n (pc := 22) K dX1_next_22 2 rfl rfl ?_
        refine x_iload_n (pc := 23) K dX1_next_23 1 rfl rfl ?_
        refine x_iadd (pc := 24) K dX1_next_24 ?_
        obtain ⟨y4, ey4, h⟩ := xl_o h
        refine x_topi ey4 ?_
        clear ey4
        refine x_istore_n (lv' := [(0, .ref (V 0)), (2, .int u2), (3, .int y4)]) (pc := 25) K dX1_next_25 rfl (by decide) rfl ?_
        refine x_goto (pc := 26) K dX1_next_26 (tgt := 4) (by decide) ?_
        exact ih y4 h k0
set_option maxHeartbeats 4000000 in
set_option maxRecDepth 100000 in
theorem c_X1_next (l : Launch) (D : va_G) (cI cJ cZ cA : ClassId) (V : Nat → Nat) (p1 : Int32) (p2 : Int32) (cel : Nat → Int32) (tint : Nat → Int32) (cells : Nat → Int64) (near : Nat → Int32) (there : Int32) (ways : Nat → Int64) (more : Nat → Int64) (thrown : Int32) (P : Int32 → Prop) (h : q_X1_next p1 p2 there P) : xMi l yX1_next wsX1_next rm_X1_next D vwCl (xtys cI cJ cZ cA) (wX1 cI cJ cZ cA V cel tint cells near there ways more thrown) [.ref (V 0), .int p1, .int p2] (σ := Unit) (fun _ => (wX1 cI cJ cZ cA V cel tint cells near there ways more thrown)) (fun r _ => P r) := by
  refine xMi_of (cc := cX1_next) (maxL := 4) (by decide) rfl (Nat.le_of_ble_eq_true rfl) ?_
  intro X K hE
  have K : xk X l rm_X1_next D vwCl (xtys cI cJ cZ cA) cX1_next RX1 wsX1_next 4 := K
  unfold q_X1_next at h
  refine x_iload_n (pc := 0) K dX1_next_0 1 rfl rfl ?_
  refine x_iload_n (pc := 1) K dX1_next_1 2 rfl rfl ?_
  refine x_iadd (pc := 2) K dX1_next_2 ?_
  obtain ⟨y1, ey1, h⟩ := xl_o h
  refine x_topi ey1 ?_
  clear ey1
  refine x_istore_n (lv' := [(0, .ref (V 0)), (1, .int p1), (2, .int p2), (3, .int y1)]) (pc := 3) K dX1_next_3 rfl (by decide) rfl ?_
  refine x_keep [true, false, true, true] rfl ?_
  obtain ⟨n5, h⟩ := h
  refine w_X1_next_L4 K p2 cel tint cells near there ways more thrown _ n5 y1 h (fun v6 h => ?_)
  refine x_iload_n (pc := 29) K dX1_next_29 0 rfl rfl ?_
  exact hE v6 () _ _ h dX1_next_30
abbrev rm_X1_tintWithFewest : Room := { frames := 12, cells := 0, slots := 0, locals := 280 }
theorem inX1_tintWithFewest : ∀ w ∈ u_ws RX1 TX1 8, w ∈ wsX1_tintWithFewest := by decide +kernel
theorem kX1_tintWithFewest_0 : Cond.fieldLink RX1 29 "FourTintsModel" "thrown" "I" ∈ wsX1_tintWithFewest := by decide +kernel
theorem kX1_tintWithFewest_1 : Cond.fieldLink RX1 13 "FourTintsModel" "tint" "[I" ∈ wsX1_tintWithFewest := by decide +kernel
def q_X1_tintWithFewest_L46 (u1 : Int32) (u2 : Int32) (near : Nat → Int32) (P0 : (Nat → Int32) → Prop) : Nat → (Nat → Int32) → Prop
  | 0, _ => False
  | n + 1, tint => xin u2 10 = true ∧ ((u1 < (tint u2.toNatClampNeg) → P0 tint) ∧ (¬ u1 < (tint u2.toNatClampNeg) → q_X1_isApart u2 tint near (fun (r11 : Int32) => ((¬ r11 = (0 : Int32) → P0 tint) ∧ (r11 = (0 : Int32) → xin u2 10 = true ∧ xin u2 10 = true ∧ q_X1_tintWithFewest_L46 u1 u2 near P0 n (upd tint u2.toNatClampNeg ((tint u2.toNatClampNeg) + (1 : Int32))))))))
def q_X1_tintWithFewest_L30 (u1 : Int32) (near : Nat → Int32) (there : Int32) (P0 : (Nat → Int32) → Prop) : Nat → Int32 → (Nat → Int32) → Prop
  | 0, _, _ => False
  | n + 1, x2, tint => (((10 : Int32) ≤ x2 → P0 tint) ∧ (¬ (10 : Int32) ≤ x2 → xin x2 10 = true ∧ xin x2 10 = true ∧ xj1 (fun (v14 : Nat → Int32) => xin x2 10 = true ∧ xj1 (fun (v16 : Int32) => xj1 (fun (v18 : Int32) => q_X1_next x2 v18 there (fun (r19 : Int32) => ((v16 = (0 : Int32) → q_X1_tintWithFewest_L30 u1 near there P0 n r19 v14) ∧ (¬ v16 = (0 : Int32) → (((10 : Int32) ≤ r19 → q_X1_tintWithFewest_L30 u1 near there P0 n r19 v14) ∧ (¬ (10 : Int32) ≤ r19 → xin r19 10 = true ∧ q_X1_tintWithFewest_L30 u1 near there P0 n r19 (upd v14 r19.toNatClampNeg (0 : Int32)))))))) (fun (J17 : Int32 → Prop) => ((v16 = (0 : Int32) → J17 (-1 : Int32)) ∧ (¬ v16 = (0 : Int32) → J17 (1 : Int32))))) (fun (J15 : Int32 → Prop) => ((u1 < (v14 x2.toNatClampNeg) → J15 (0 : Int32)) ∧ (¬ u1 < (v14 x2.toNatClampNeg) → J15 (1 : Int32))))) (fun (J13 : (Nat → Int32) → Prop) => (∃ n21 : Nat, q_X1_tintWithFewest_L46 u1 x2 near (fun (v22 : Nat → Int32) => J13 v22) n21 (upd tint x2.toNatClampNeg ((tint x2.toNatClampNeg) + (1 : Int32)))))))
def q_X1_tintWithFewest (cel : Nat → Int32) (tint : Nat → Int32) (cells : Nat → Int64) (near : Nat → Int32) (ways : Nat → Int64) (more : Nat → Int64) (P : Int32 → (Nat → Int32) → (Nat → Int64) → (Nat → Int32) → Int32 → (Nat → Int64) → (Nat → Int64) → Int32 → Prop) : Prop := q_X1_fewest cel cells near ways more (fun (r6 : Int32) (cells_1 : Nat → Int64) (near_2 : Nat → Int32) (there_3 : Int32) (ways_4 : Nat → Int64) (more_5 : Nat → Int64) => q_X1_next (-1 : Int32) (1 : Int32) there_3 (fun (r7 : Int32) => xj1 (fun (v9 : Nat → Int32) => (∃ n23 : Nat, q_X1_tintWithFewest_L30 r6 near_2 there_3 (fun (v24 : Nat → Int32) => P r6 v24 cells_1 near_2 there_3 ways_4 more_5 (0 : Int32)) n23 r7 v9)) (fun (J8 : (Nat → Int32) → Prop) => (((10 : Int32) ≤ r7 → J8 tint) ∧ (¬ (10 : Int32) ≤ r7 → xin r7 10 = true ∧ J8 (upd tint r7.toNatClampNeg (0 : Int32)))))))
set_option maxHeartbeats 4000000 in
set_option maxRecDepth 100000 in
theorem w_X1_tintWithFewest_L46 {X : xC} {l : Launch} {D : va_G} {cI cJ cZ cA : ClassId} {V : Nat → Nat} (K : xk X l rm_X1_tintWithFewest D vwCl (xtys cI cJ cZ cA) cX1_tintWithFewest RX1 wsX1_tintWithFewest 4) (u1 : Int32) (u2 : Int32) (cel : Nat → Int32) (cells : Nat → Int64) (near : Nat → Int32) (there : Int32) (ways : Nat → Int64) (more : Nat → Int64) (thrown : Int32) (P0 : (Nat → Int32) → Prop) : ∀ (n : Nat) (tint : Nat → Int32), q_X1_tintWithFewest_L46 u1 u2 near P0 n tint → (∀ (z0 : Nat → Int32), P0 z0 → xw X 0 0 77 [(0, .ref (V 0)), (1, .int u1), (2, .int u2)] [] (wX1 cI cJ cZ cA V cel z0 cells near there ways more thrown)) → xw X 0 0 46 [(0, .ref (V 0)), (1, .int u1), (2, .int u2)] [] (wX1 cI cJ cZ cA V cel tint cells near there ways more thrown) := by
  intro n
  induction n with
  | zero =>
    intro tint h
    rw [q_X1_tintWithFewest_L46] at h
    exact h.elim
  | succ n ih =>
    intro tint h k0
    rw [q_X1_tintWithFewest_L46] at h
    refine x_aload_n (pc := 46) K dX1_tintWithFewest_46 0 rfl rfl ?_
    refine x_get (pc := 47) (ci := 1) (C := RX1) (T := TX1) (N := 8) K (inX1_tintWithFewest) 0 rfl rfl 1 (by decide) kX1_tintWithFewest_1 rfl rfl dX1_tintWithFewest_47 ?_
    refine x_iload_n (pc := 50) K dX1_tintWithFewest_50 2 rfl rfl ?_
    have g9 := h.1
    replace h := h.2
    refine x_iald (pc := 51) K 2 0 rfl rfl g9 dX1_tintWithFewest_51 ?_
    clear g9
    refine x_iload_n (pc := 52) K dX1_tintWithFewest_52 1 rfl rfl ?_
    refine x_icmp_gt (pc := 53) K dX1_tintWithFewest_53 (tgt := 77) (by decide) (fun c9 => ?_) (fun c9 => ?_)
    · have h := h.1 c9
      exact k0 tint h
    · have h := h.2 c9
      refine x_aload_n (pc := 56) K dX1_tintWithFewest_56 0 rfl rfl ?_
      refine x_iload_n (pc := 57) K dX1_tintWithFewest_57 2 rfl rfl ?_
      refine x_callVz (pc := 58) (n := 1) K (c_X1_isApart l D cI cJ cZ cA V u2 cel tint cells near there ways more thrown _ h) rfl rfl gX1_tintWithFewest_X1_isApart rfl (by decide +kernel) ⟨Nat.le_of_ble_eq_true rfl, Nat.le_of_ble_eq_true rfl⟩ rfl (av := [.int u2]) (b := V 0) (ci := 1) (q0 := 0) rfl rfl rfl (Nat.le_of_ble_eq_true rfl) [0, 1, 2, 3, 4, 5, 6] [] (wr := []) rfl rfl rfl rfl (by decide) dX1_tintWithFewest_58 ⟨Nat.le_of_ble_eq_true rfl, Nat.le_of_ble_eq_true rfl⟩ (fun r11 u9 h => ?_)
      refine x_ws (ws' := (wX1 cI cJ cZ cA V cel tint cells near there ways more thrown)) rfl ?_
      refine x_if_ne (pc := 61) K dX1_tintWithFewest_61 (tgt := 77) (by decide) (fun c9 => ?_) (fun c9 => ?_)
      · have h := h.1 c9
        exact k0 tint h
      · have h := h.2 c9
        refine x_aload_n (pc := 64) K dX1_tintWithFewest_64 0 rfl rfl ?_
        refine x_get (pc := 65) (ci := 1) (C := RX1) (T := TX1) (N := 8) K (inX1_tintWithFewest) 0 rfl rfl 1 (by decide) kX1_tintWithFewest_1 rfl rfl dX1_tintWithFewest_65 ?_
        refine x_iload_n (pc := 68) K dX1_tintWithFewest_68 2 rfl rfl ?_
        refine x_dup2 (pc := 69) K dX1_tintWithFewest_69 rfl rfl ?_
        have g9 := h.1
        replace h := h.2
        refine x_iald (pc := 70) K 2 0 rfl rfl g9 dX1_tintWithFewest_70 ?_
        clear g9
        refine x_iconst (v := (1)) (pc := 71) K dX1_tintWithFewest_71 (by decide) ?_
        refine x_iadd (pc := 72) K dX1_tintWithFewest_72 ?_
        have g9 := h.1
        replace h := h.2
        refine x_iast (ws' := (wX1 cI cJ cZ cA V cel (upd tint u2.toNatClampNeg ((tint u2.toNatClampNeg) + (1 : Int32))) cells near there ways more thrown)) (pc := 73) K 2 0 rfl rfl rfl g9 dX1_tintWithFewest_73 ?_
        clear g9
        refine x_goto (pc := 74) K dX1_tintWithFewest_74 (tgt := 46) (by decide) ?_
        exact ih (upd tint u2.toNatClampNeg ((tint u2.toNatClampNeg) + (1 : Int32))) h k0
set_option maxHeartbeats 4000000 in
set_option maxRecDepth 100000 in
theorem w_X1_tintWithFewest_L30 {X : xC} {l : Launch} {D : va_G} {cI cJ cZ cA : ClassId} {V : Nat → Nat} (K : xk X l rm_X1_tintWithFewest D vwCl (xtys cI cJ cZ cA) cX1_tintWithFewest RX1 wsX1_tintWithFewest 4) (u1 : Int32) (cel : Nat → Int32) (cells : Nat → Int64) (near : Nat → Int32) (there : Int32) (ways : Nat → Int64) (more : Nat → Int64) (thrown : Int32) (P0 : (Nat → Int32) → Prop) : ∀ (n : Nat) (x2 : Int32) (tint : Nat → Int32), q_X1_tintWithFewest_L30 u1 near there P0 n x2 tint → (∀ (z0 : Nat → Int32), P0 z0 → xw X 0 0 128 [(1, .int u1)] [] (wX1 cI cJ cZ cA V cel z0 cells near there ways more thrown)) → xw X 0 0 30 [(0, .ref (V 0)), (1, .int u1), (2, .int x2)] [] (wX1 cI cJ cZ cA V cel tint cells near there ways more thrown) := by
  intro n
  induction n with
  | zero =>
    intro x2 tint h
    rw [q_X1_tintWithFewest_L30] at h
    exact h.elim
  | succ n ih =>
    intro x2 tint h k0
    rw [q_X1_tintWithFewest_L30] at h
    refine x_iload_n (pc := 30) K dX1_tintWithFewest_30 2 rfl rfl ?_
    refine x_bipush (v := (10)) (pc := 31) K dX1_tintWithFewest_31 (by decide) ?_
    refine x_icmp_ge (pc := 33) K dX1_tintWithFewest_33 (tgt := 128) (by decide) (fun c9 => ?_) (fun c9 => ?_)
    · have h := h.1 c9
      refine x_keep [false, true, false] rfl ?_
      exact k0 tint h
    · have h := h.2 c9
      refine x_aload_n (pc := 36) K dX1_tintWithFewest_36 0 rfl rfl ?_
      refine x_get (pc := 37) (ci := 1) (C := RX1) (T := TX1) (N := 8) K (inX1_tintWithFewest) 0 rfl rfl 1 (by decide) kX1_tintWithFewest_1 rfl rfl dX1_tintWithFewest_37 ?_
      refine x_iload_n (pc := 40) K dX1_tintWithFewest_40 2 rfl rfl ?_
      refine x_dup2 (pc := 41) K dX1_tintWithFewest_41 rfl rfl ?_
      have g9 := h.1
      replace h := h.2
      refine x_iald (pc := 42) K 2 0 rfl rfl g9 dX1_tintWithFewest_42 ?_
      clear g9
      refine x_iconst (v := (1)) (pc := 43) K dX1_tintWithFewest_43 (by decide) ?_
      refine x_iadd (pc := 44) K dX1_tintWithFewest_44 ?_
      have g9 := h.1
      replace h := h.2
      refine x_iast (ws' := (wX1 cI cJ cZ cA V cel (upd tint x2.toNatClampNeg ((tint x2.toNatClampNeg) + (1 : Int32))) cells near there ways more thrown)) (pc := 45) K 2 0 rfl rfl rfl g9 dX1_tintWithFewest_45 ?_
      clear g9
      obtain ⟨J13, hJ13, h⟩ := xj1_o h
      have kJ13 : ∀ (v14 : Nat → Int32), J13 v14 → xw X 0 0 77 [(0, .ref (V 0)), (1, .int u1), (2, .int x2)] [] (wX1 cI cJ cZ cA V cel v14 cells near there ways more thrown) := by
        intro v14 hj
        have h := hJ13 v14 hj
        refine x_aload_n (pc := 77) K dX1_tintWithFewest_77 0 rfl rfl ?_
        refine x_get (pc := 78) (ci := 1) (C := RX1) (T := TX1) (N := 8) K (inX1_tintWithFewest) 0 rfl rfl 1 (by decide) kX1_tintWithFewest_1 rfl rfl dX1_tintWithFewest_78 ?_
        refine x_iload_n (pc := 81) K dX1_tintWithFewest_81 2 rfl rfl ?_
        have g9 := h.1
        replace h := h.2
        refine x_iald (pc := 82) K 2 0 rfl rfl g9 dX1_tintWithFewest_82 ?_
        clear g9
        refine x_iload_n (pc := 83) K dX1_tintWithFewest_83 1 rfl rfl ?_
        obtain ⟨J15, hJ15, h⟩ := xj1_o h
        have kJ15 : ∀ (v16 : Int32), J15 v16 → xw X 0 0 92 [(0, .ref (V 0)), (1, .int u1), (2, .int x2)] [.int v16] (wX1 cI cJ cZ cA V cel v14 cells near there ways more thrown) := by
          intro v16 hj
          have h := hJ15 v16 hj
          refine x_istore_n (lv' := [(0, .ref (V 0)), (1, .int u1), (2, .int x2), (3, .int v16)]) (pc := 92) K dX1_tintWithFewest_92 rfl (by decide) rfl ?_
          refine x_aload_n (pc := 93) K dX1_tintWithFewest_93 0 rfl rfl ?_
          refine x_iload_n (pc := 94) K dX1_tintWithFewest_94 2 rfl rfl ?_
          refine x_iload_n (pc := 95) K dX1_tintWithFewest_95 3 rfl rfl ?_
          obtain ⟨J17, hJ17, h⟩ := xj1_o h
          have kJ17 : ∀ (v18 : Int32), J17 v18 → xw X 0 0 104 [(0, .ref (V 0)), (1, .int u1), (3, .int v16)] [.int v18, .int x2, .ref (V 0)] (wX1 cI cJ cZ cA V cel v14 cells near there ways more thrown) := by
            intro v18 hj
            have h := hJ17 v18 hj
            refine x_callVi (pc := 104) (n := 2) K (c_X1_next l D cI cJ cZ cA V x2 v18 cel v14 cells near there ways more thrown _ h) rfl rfl gX1_tintWithFewest_X1_next rfl (by decide +kernel) ⟨Nat.le_of_ble_eq_true rfl, Nat.le_of_ble_eq_true rfl⟩ rfl (av := [.int x2, .int v18]) (b := V 0) (ci := 1) (q0 := 0) rfl rfl rfl (Nat.le_of_ble_eq_true rfl) [0, 1, 2, 3, 4, 5, 6] [] (wr := []) rfl rfl rfl rfl (by decide) dX1_tintWithFewest_104 ⟨Nat.le_of_ble_eq_true rfl, Nat.le_of_ble_eq_true rfl⟩ (fun r19 u9 h => ?_)
            refine x_ws (ws' := (wX1 cI cJ cZ cA V cel v14 cells near there ways more thrown)) rfl ?_
            refine x_istore_n (lv' := [(0, .ref (V 0)), (1, .int u1), (2, .int r19), (3, .int v16)]) (pc := 107) K dX1_tintWithFewest_107 rfl (by decide) rfl ?_
            refine x_iload_n (pc := 108) K dX1_tintWithFewest_108 3 rfl rfl ?_
            refine x_if_eq (pc := 109) K dX1_tintWithFewest_109 (tgt := 125) (by decide) (fun c9 => ?_) (fun c9 => ?_)
            · have h := h.1 c9
              refine x_keep [true, true, true, false] rfl ?_
              refine x_goto (pc := 125) K dX1_tintWithFewest_125 (tgt := 30) (by decide) ?_
              exact ih r19 v14 h k0
            · have h := h.2 c9
              refine x_keep [true, true, true, false] rfl ?_
              refine x_iload_n (pc := 112) K dX1_tintWithFewest_112 2 rfl rfl ?_
              refine x_bipush (v := (10)) (pc := 113) K dX1_tintWithFewest_113 (by decide) ?_
              refine x_icmp_ge (pc := 115) K dX1_tintWithFewest_115 (tgt := 125) (by decide) (fun c9 => ?_) (fun c9 => ?_)
              · have h := h.1 c9
                refine x_goto (pc := 125) K dX1_tintWithFewest_125 (tgt := 30) (by decide) ?_
                exact ih r19 v14 h k0
              · have h := h.2 c9
                refine x_aload_n (pc := 118) K dX1_tintWithFewest_118 0 rfl rfl ?_
                refine x_get (pc := 119) (ci := 1) (C := RX1) (T := TX1) (N := 8) K (inX1_tintWithFewest) 0 rfl rfl 1 (by decide) kX1_tintWithFewest_1 rfl rfl dX1_tintWithFewest_119 ?_
                refine x_iload_n (pc := 122) K dX1_tintWithFewest_122 2 rfl rfl ?_
                refine x_iconst (v := (0)) (pc := 123) K dX1_tintWithFewest_123 (by decide) ?_
                have g9 := h.1
                replace h := h.2
                refine x_iast (ws' := (wX1 cI cJ cZ cA V cel (upd v14 r19.toNatClampNeg (0 : Int32)) cells near there ways more thrown)) (pc := 124) K 2 0 rfl rfl rfl g9 dX1_tintWithFewest_124 ?_
                clear g9
                refine x_goto (pc := 125) K dX1_tintWithFewest_125 (tgt := 30) (by decide) ?_
                exact ih r19 (upd v14 r19.toNatClampNeg (0 : Int32)) h k0
          refine x_if_eq (pc := 96) K dX1_tintWithFewest_96 (tgt := 103) (by decide) (fun c9 => ?_) (fun c9 => ?_)
          · have h := h.1 c9
            refine x_keep [true, true, false, true] rfl ?_
            refine x_iconst (v := (-1)) (pc := 103) K dX1_tintWithFewest_103 (by decide) ?_
            exact kJ17 (-1 : Int32) h
          · have h := h.2 c9
            refine x_keep [true, true, false, true] rfl ?_
            refine x_iconst (v := (1)) (pc := 99) K dX1_tintWithFewest_99 (by decide) ?_
            refine x_goto (pc := 100) K dX1_tintWithFewest_100 (tgt := 104) (by decide) ?_
            exact kJ17 (1 : Int32) h
        refine x_icmp_gt (pc := 84) K dX1_tintWithFewest_84 (tgt := 91) (by decide) (fun c9 => ?_) (fun c9 => ?_)
        · have h := h.1 c9
          refine x_iconst (v := (0)) (pc := 91) K dX1_tintWithFewest_91 (by decide) ?_
          exact kJ15 (0 : Int32) h
        · have h := h.2 c9
          refine x_iconst (v := (1)) (pc := 87) K dX1_tintWithFewest_87 (by decide) ?_
          refine x_goto (pc := 88) K dX1_tintWithFewest_88 (tgt := 92) (by decide) ?_
          exact kJ15 (1 : Int32) h
      obtain ⟨n21, h⟩ := h
      refine w_X1_tintWithFewest_L46 K u1 x2 cel cells near there ways more thrown _ n21 (upd tint x2.toNatClampNeg ((tint x2.toNatClampNeg) + (1 : Int32))) h (fun v22 h => ?_)
      exact kJ13 v22 h
set_option maxHeartbeats 4000000 in
set_option maxRecDepth 100000 in
theorem c_X1_tintWithFewest (l : Launch) (D : va_G) (cI cJ cZ cA : ClassId) (V : Nat → Nat) (cel : Nat → Int32) (tint : Nat → Int32) (cells : Nat → Int64) (near : Nat → Int32) (there : Int32) (ways : Nat → Int64) (more : Nat → Int64) (thrown : Int32) (P : Int32 → (Nat → Int32) → (Nat → Int64) → (Nat → Int32) → Int32 → (Nat → Int64) → (Nat → Int64) → Int32 → Prop) (h : q_X1_tintWithFewest cel tint cells near ways more P) : xMi l yX1_tintWithFewest wsX1_tintWithFewest rm_X1_tintWithFewest D vwCl (xtys cI cJ cZ cA) (wX1 cI cJ cZ cA V cel tint cells near there ways more thrown) [.ref (V 0)] (σ := (Nat → Int32) × (Nat → Int64) × (Nat → Int32) × Int32 × (Nat → Int64) × (Nat → Int64) × Int32) (fun u => (wX1 cI cJ cZ cA V cel u.1 u.2.1 u.2.2.1 u.2.2.2.1 u.2.2.2.2.1 u.2.2.2.2.2.1 u.2.2.2.2.2.2)) (fun r u => P r u.1 u.2.1 u.2.2.1 u.2.2.2.1 u.2.2.2.2.1 u.2.2.2.2.2.1 u.2.2.2.2.2.2) := by
  refine xMi_of (cc := cX1_tintWithFewest) (maxL := 4) (by decide) rfl (Nat.le_of_ble_eq_true rfl) ?_
  intro X K hE
  have K : xk X l rm_X1_tintWithFewest D vwCl (xtys cI cJ cZ cA) cX1_tintWithFewest RX1 wsX1_tintWithFewest 4 := K
  unfold q_X1_tintWithFewest at h
  refine x_aload_n (pc := 0) K dX1_tintWithFewest_0 0 rfl rfl ?_
  refine x_iconst (v := (0)) (pc := 1) K dX1_tintWithFewest_1 (by decide) ?_
  refine x_put (ws' := (wX1 cI cJ cZ cA V cel tint cells near there ways more (0 : Int32))) (pc := 2) (ci := 1) (C := RX1) (T := TX1) (N := 8) (ty := .int) K (inX1_tintWithFewest) tyX1 tyX1_ok nmX1 0 rfl rfl 7 (by decide) kX1_tintWithFewest_0 rfl rfl rfl rfl rfl (Nat.le_of_ble_eq_true rfl) rfl dX1_tintWithFewest_2 ?_
  refine x_aload_n (pc := 5) K dX1_tintWithFewest_5 0 rfl rfl ?_
  refine x_callVi (pc := 6) (n := 0) K (c_X1_fewest l D cI cJ cZ cA V cel tint cells near there ways more (0 : Int32) _ h) rfl rfl gX1_tintWithFewest_X1_fewest rfl (by decide +kernel) ⟨Nat.le_of_ble_eq_true rfl, Nat.le_of_ble_eq_true rfl⟩ rfl (av := []) (b := V 0) (ci := 1) (q0 := 0) rfl rfl rfl (Nat.le_of_ble_eq_true rfl) [0, 1, 2, 3, 4, 5, 6] [] (wr := []) rfl rfl rfl rfl (by decide) dX1_tintWithFewest_6 ⟨Nat.le_of_ble_eq_true rfl, Nat.le_of_ble_eq_true rfl⟩ (fun r6 u9 h => ?_)
  obtain ⟨cells_1, near_2, there_3, ways_4, more_5⟩ := u9
  refine x_ws (ws' := (wX1 cI cJ cZ cA V cel tint cells_1 near_2 there_3 ways_4 more_5 (0 : Int32))) rfl ?_
  refine x_istore_n (lv' := [(0, .ref (V 0)), (1, .int r6)]) (pc := 9) K dX1_tintWithFewest_9 rfl (by decide) rfl ?_
  refine x_aload_n (pc := 10) K dX1_tintWithFewest_10 0 rfl rfl ?_
  refine x_iconst (v := (-1)) (pc := 11) K dX1_tintWithFewest_11 (by decide) ?_
  refine x_iconst (v := (1)) (pc := 12) K dX1_tintWithFewest_12 (by decide) ?_
  refine x_callVi (pc := 13) (n := 2) K (c_X1_next l D cI cJ cZ cA V (-1 : Int32) (1 : Int32) cel tint cells_1 near_2 there_3 ways_4 more_5 (0 : Int32) _ h) rfl rfl gX1_tintWithFewest_X1_next rfl (by decide +kernel) ⟨Nat.le_of_ble_eq_true rfl, Nat.le_of_ble_eq_true rfl⟩ rfl (av := [.int (-1 : Int32), .int (1 : Int32)]) (b := V 0) (ci := 1) (q0 := 0) rfl rfl rfl (Nat.le_of_ble_eq_true rfl) [0, 1, 2, 3, 4, 5, 6] [] (wr := []) rfl rfl rfl rfl (by decide) dX1_tintWithFewest_13 ⟨Nat.le_of_ble_eq_true rfl, Nat.le_of_ble_eq_true rfl⟩ (fun r7 u9 h => ?_)
  refine x_ws (ws' := (wX1 cI cJ cZ cA V cel tint cells_1 near_2 there_3 ways_4 more_5 (0 : Int32))) rfl ?_
  refine x_istore_n (lv' := [(0, .ref (V 0)), (1, .int r6), (2, .int r7)]) (pc := 16) K dX1_tintWithFewest_16 rfl (by decide) rfl ?_
  refine x_iload_n (pc := 17) K dX1_tintWithFewest_17 2 rfl rfl ?_
  refine x_bipush (v := (10)) (pc := 18) K dX1_tintWithFewest_18 (by decide) ?_
  obtain ⟨J8, hJ8, h⟩ := xj1_o h
  have kJ8 : ∀ (v9 : Nat → Int32), J8 v9 → xw X 0 0 30 [(0, .ref (V 0)), (1, .int r6), (2, .int r7)] [] (wX1 cI cJ cZ cA V cel v9 cells_1 near_2 there_3 ways_4 more_5 (0 : Int32)) := by
    intro v9 hj
    have h := hJ8 v9 hj
    obtain ⟨n23, h⟩ := h
    refine w_X1_tintWithFewest_L30 K r6 cel cells_1 near_2 there_3 ways_4 more_5 (0 : Int32) _ n23 r7 v9 h (fun v24 h => ?_)
    refine x_iload_n (pc := 128) K dX1_tintWithFewest_128 0 rfl rfl ?_
    exact hE r6 (v24, cells_1, near_2, there_3, ways_4, more_5, (0 : Int32)) _ _ h dX1_tintWithFewest_129
  refine x_icmp_ge (pc := 20) K dX1_tintWithFewest_20 (tgt := 30) (by decide) (fun c9 => ?_) (fun c9 => ?_)
  · have h := h.1 c9
    exact kJ8 tint h
  · have h := h.2 c9
    refine x_aload_n (pc := 23) K dX1_tintWithFewest_23 0 rfl rfl ?_
    refine x_get (pc := 24) (ci := 1) (C := RX1) (T := TX1) (N := 8) K (inX1_tintWithFewest) 0 rfl rfl 1 (by decide) kX1_tintWithFewest_1 rfl rfl dX1_tintWithFewest_24 ?_
    refine x_iload_n (pc := 27) K dX1_tintWithFewest_27 2 rfl rfl ?_
    refine x_iconst (v := (0)) (pc := 28) K dX1_tintWithFewest_28 (by decide) ?_
    have g9 := h.1
    replace h := h.2
    refine x_iast (ws' := (wX1 cI cJ cZ cA V cel (upd tint r7.toNatClampNeg (0 : Int32)) cells_1 near_2 there_3 ways_4 more_5 (0 : Int32))) (pc := 29) K 2 0 rfl rfl rfl g9 dX1_tintWithFewest_29 ?_
    clear g9
    exact kJ8 (upd tint r7.toNatClampNeg (0 : Int32)) h
abbrev rm_X1_count : Room := { frames := 11, cells := 0, slots := 0, locals := 240 }
theorem inX1_count : ∀ w ∈ u_ws RX1 TX1 8, w ∈ wsX1_count := by decide +kernel
theorem kX1_count_0 : Cond.fieldLink RX1 23 "FourTintsModel" "ways" "[J" ∈ wsX1_count := by decide +kernel
theorem kX1_count_1 : Cond.fieldLink RX1 47 "FourTintsModel" "there" "I" ∈ wsX1_count := by decide +kernel
def q_X1_count_L24 (u1 : Int32) (near : Nat → Int32) (there : Int32) (P0 : (Nat → Int64) → (Nat → Int64) → Prop) : Nat → Int32 → (Nat → Int64) → (Nat → Int64) → Prop
  | 0, _, _, _ => False
  | n + 1, x2, ways, more => ((u1 ≤ x2 → P0 ways more) ∧ (¬ u1 ≤ x2 → q_X1_adds near there ways more (fun (ways_8 : Nat → Int64) (more_9 : Nat → Int64) => q_X1_count_L24 u1 near there P0 n (x2 + (1 : Int32)) ways_8 more_9)))
def q_X1_count (p1 : Int32) (cel : Nat → Int32) (cells : Nat → Int64) (near : Nat → Int32) (there : Int32) (ways : Nat → Int64) (more : Nat → Int64) (P : Int64 → (Nat → Int64) → (Nat → Int32) → Int32 → (Nat → Int64) → (Nat → Int64) → Int32 → Prop) : Prop := q_X1_in p1 (0 : Int32) (10 : Int32) (fun (r1 : Int32) => q_X1_goes r1 (1 : Int32) (1 : Int32) (fun (r3 : Int32) (thrown_2 : Int32) => ((¬ r3 = (0 : Int32) → q_X1_begins cel cells near ways (fun (cells_4 : Nat → Int64) (near_5 : Nat → Int32) (there_6 : Int32) (ways_7 : Nat → Int64) => (∃ n10 : Nat, q_X1_count_L24 p1 near_5 there_6 (fun (v11 : Nat → Int64) (v12 : Nat → Int64) => xin there_6 1024 = true ∧ P (v11 there_6.toNatClampNeg) cells_4 near_5 there_6 v11 v12 thrown_2) n10 (0 : Int32) ways_7 more))) ∧ (r3 = (0 : Int32) → P (0 : Int64) cells near there ways more thrown_2))))
set_option maxHeartbeats 4000000 in
set_option maxRecDepth 100000 in
theorem w_X1_count_L24 {X : xC} {l : Launch} {D : va_G} {cI cJ cZ cA : ClassId} {V : Nat → Nat} (K : xk X l rm_X1_count D vwCl (xtys cI cJ cZ cA) cX1_count RX1 wsX1_count 3) (u1 : Int32) (cel : Nat → Int32) (tint : Nat → Int32) (cells : Nat → Int64) (near : Nat → Int32) (there : Int32) (thrown : Int32) (P0 : (Nat → Int64) → (Nat → Int64) → Prop) : ∀ (n : Nat) (x2 : Int32) (ways : Nat → Int64) (more : Nat → Int64), q_X1_count_L24 u1 near there P0 n x2 ways more → (∀ (z0 : Nat → Int64) (z1 : Nat → Int64), P0 z0 z1 → xw X 0 0 39 [(0, .ref (V 0))] [] (wX1 cI cJ cZ cA V cel tint cells near there z0 z1 thrown)) → xw X 0 0 24 [(0, .ref (V 0)), (1, .int u1), (2, .int x2)] [] (wX1 cI cJ cZ cA V cel tint cells near there ways more thrown) := by
  intro n
  induction n with
  | zero =>
    intro x2 ways more h
    rw [q_X1_count_L24] at h
    exact h.elim
  | succ n ih =>
    intro x2 ways more h k0
    rw [q_X1_count_L24] at h
    refine x_iload_n (pc := 24) K dX1_count_24 2 rfl rfl ?_
    refine x_iload_n (pc := 25) K dX1_count_25 1 rfl rfl ?_
    refine x_icmp_ge (pc := 26) K dX1_count_26 (tgt := 39) (by decide) (fun c9 => ?_) (fun c9 => ?_)
    · have h := h.1 c9
      refine x_keep [true, false, false] rfl ?_
      exact k0 ways more h
    · have h := h.2 c9
      refine x_aload_n (pc := 29) K dX1_count_29 0 rfl rfl ?_
      refine x_callVv (pc := 30) (n := 0) K (c_X1_adds l D cI cJ cZ cA V cel tint cells near there ways more thrown _ h) rfl rfl gX1_count_X1_adds rfl (by decide +kernel) ⟨Nat.le_of_ble_eq_true rfl, Nat.le_of_ble_eq_true rfl⟩ rfl (av := []) (b := V 0) (ci := 1) (q0 := 0) rfl rfl rfl (Nat.le_of_ble_eq_true rfl) [0, 1, 2, 3, 4, 5, 6] [] (wr := []) rfl rfl rfl rfl (by decide) dX1_count_30 ⟨Nat.le_of_ble_eq_true rfl, Nat.le_of_ble_eq_true rfl⟩ (fun u9 h => ?_)
      obtain ⟨ways_8, more_9⟩ := u9
      refine x_ws (ws' := (wX1 cI cJ cZ cA V cel tint cells near there ways_8 more_9 thrown)) rfl ?_
      refine x_iinc (v := x2 + (1 : Int32)) (lv' := [(0, .ref (V 0)), (1, .int u1), (2, .int (x2 + (1 : Int32)))]) (pc := 33) K dX1_count_33 (k := 2) rfl rfl (by decide) rfl ?_
      refine x_goto (pc := 36) K dX1_count_36 (tgt := 24) (by decide) ?_
      exact ih (x2 + (1 : Int32)) ways_8 more_9 h k0
set_option maxHeartbeats 4000000 in
set_option maxRecDepth 100000 in
theorem c_X1_count (l : Launch) (D : va_G) (cI cJ cZ cA : ClassId) (V : Nat → Nat) (p1 : Int32) (cel : Nat → Int32) (tint : Nat → Int32) (cells : Nat → Int64) (near : Nat → Int32) (there : Int32) (ways : Nat → Int64) (more : Nat → Int64) (thrown : Int32) (P : Int64 → (Nat → Int64) → (Nat → Int32) → Int32 → (Nat → Int64) → (Nat → Int64) → Int32 → Prop) (h : q_X1_count p1 cel cells near there ways more P) : xMl l yX1_count wsX1_count rm_X1_count D vwCl (xtys cI cJ cZ cA) (wX1 cI cJ cZ cA V cel tint cells near there ways more thrown) [.ref (V 0), .int p1] (σ := (Nat → Int64) × (Nat → Int32) × Int32 × (Nat → Int64) × (Nat → Int64) × Int32) (fun u => (wX1 cI cJ cZ cA V cel tint u.1 u.2.1 u.2.2.1 u.2.2.2.1 u.2.2.2.2.1 u.2.2.2.2.2)) (fun r u => P r u.1 u.2.1 u.2.2.1 u.2.2.2.1 u.2.2.2.2.1 u.2.2.2.2.2) := by
  refine xMl_of (cc := cX1_count) (maxL := 3) (by decide) rfl (Nat.le_of_ble_eq_true rfl) ?_
  intro X K hE
  have K : xk X l rm_X1_count D vwCl (xtys cI cJ cZ cA) cX1_count RX1 wsX1_count 3 := K
  unfold q_X1_count at h
  refine x_aload_n (pc := 0) K dX1_count_0 0 rfl rfl ?_
  refine x_iload_n (pc := 1) K dX1_count_1 1 rfl rfl ?_
  refine x_iconst (v := (0)) (pc := 2) K dX1_count_2 (by decide) ?_
  refine x_bipush (v := (10)) (pc := 3) K dX1_count_3 (by decide) ?_
  refine x_pcallSz (pc := 5) (n := 3) K (c_X1_in l D cI cJ cZ cA p1 (0 : Int32) (10 : Int32) _ h) rfl rfl gX1_count_X1_in rfl (by decide +kernel) ⟨Nat.le_of_ble_eq_true rfl, Nat.le_of_ble_eq_true rfl⟩ rfl (av := [.int p1, .int (0 : Int32), .int (10 : Int32)]) rfl (Nat.le_of_ble_eq_true rfl) dX1_count_5 ⟨Nat.le_of_ble_eq_true rfl, Nat.le_of_ble_eq_true rfl⟩ (fun r1 u9 h => ?_)
  refine x_iconst (v := (1)) (pc := 8) K dX1_count_8 (by decide) ?_
  refine x_iconst (v := (1)) (pc := 9) K dX1_count_9 (by decide) ?_
  refine x_callVz (pc := 10) (n := 3) K (c_X1_goes l D cI cJ cZ cA V r1 (1 : Int32) (1 : Int32) cel tint cells near there ways more thrown _ h) rfl rfl gX1_count_X1_goes rfl (by decide +kernel) ⟨Nat.le_of_ble_eq_true rfl, Nat.le_of_ble_eq_true rfl⟩ rfl (av := [.int r1, .int (1 : Int32), .int (1 : Int32)]) (b := V 0) (ci := 1) (q0 := 0) rfl rfl rfl (Nat.le_of_ble_eq_true rfl) [0, 1, 2, 3, 4, 5, 6] [] (wr := []) rfl rfl rfl rfl (by decide) dX1_count_10 ⟨Nat.le_of_ble_eq_true rfl, Nat.le_of_ble_eq_true rfl⟩ (fun r3 thrown_2 h => ?_)
  refine x_ws (ws' := (wX1 cI cJ cZ cA V cel tint cells near there ways more thrown_2)) rfl ?_
  refine x_if_ne (pc := 13) K dX1_count_13 (tgt := 18) (by decide) (fun c9 => ?_) (fun c9 => ?_)
  · have h := h.1 c9
    refine x_aload_n (pc := 18) K dX1_count_18 0 rfl rfl ?_
    refine x_callVv (pc := 19) (n := 0) K (c_X1_begins l D cI cJ cZ cA V cel tint cells near there ways more thrown_2 _ h) rfl rfl gX1_count_X1_begins rfl (by decide +kernel) ⟨Nat.le_of_ble_eq_true rfl, Nat.le_of_ble_eq_true rfl⟩ rfl (av := []) (b := V 0) (ci := 1) (q0 := 0) rfl rfl rfl (Nat.le_of_ble_eq_true rfl) [0, 1, 2, 3, 4, 5, 6] [] (wr := []) rfl rfl rfl rfl (by decide) dX1_count_19 ⟨Nat.le_of_ble_eq_true rfl, Nat.le_of_ble_eq_true rfl⟩ (fun u9 h => ?_)
    obtain ⟨cells_4, near_5, there_6, ways_7⟩ := u9
    refine x_ws (ws' := (wX1 cI cJ cZ cA V cel tint cells_4 near_5 there_6 ways_7 more thrown_2)) rfl ?_
    refine x_iconst (v := (0)) (pc := 22) K dX1_count_22 (by decide) ?_
    refine x_istore_n (lv' := [(0, .ref (V 0)), (1, .int p1), (2, .int (0 : Int32))]) (pc := 23) K dX1_count_23 rfl (by decide) rfl ?_
    obtain ⟨n10, h⟩ := h
    refine w_X1_count_L24 K p1 cel tint cells_4 near_5 there_6 thrown_2 _ n10 (0 : Int32) ways_7 more h (fun v11 v12 h => ?_)
    refine x_aload_n (pc := 39) K dX1_count_39 0 rfl rfl ?_
    refine x_get (pc := 40) (ci := 1) (C := RX1) (T := TX1) (N := 8) K (inX1_count) 0 rfl rfl 5 (by decide) kX1_count_0 rfl rfl dX1_count_40 ?_
    refine x_aload_n (pc := 43) K dX1_count_43 0 rfl rfl ?_
    refine x_get (pc := 44) (ci := 1) (C := RX1) (T := TX1) (N := 8) K (inX1_count) 0 rfl rfl 4 (by decide) kX1_count_1 rfl rfl dX1_count_44 ?_
    have g9 := h.1
    replace h := h.2
    refine x_lald (pc := 47) K 5 1 rfl rfl g9 dX1_count_47 ?_
    clear g9
    exact hE (v11 there_6.toNatClampNeg) (cells_4, near_5, there_6, v11, v12, thrown_2) _ _ h dX1_count_48
  · have h := h.2 c9
    refine x_keep [false, false] rfl ?_
    refine x_lconst (v := (0)) (pc := 16) K dX1_count_16 (by decide) ?_
    exact hE (0 : Int64) (cells, near, there, ways, more, thrown_2) _ _ h dX1_count_17
abbrev rm_X1_tintings : Room := { frames := 12, cells := 0, slots := 0, locals := 280 }
def q_X1_tintings (p1 : Int32) (cel : Nat → Int32) (cells : Nat → Int64) (near : Nat → Int32) (there : Int32) (ways : Nat → Int64) (more : Nat → Int64) (P : Int64 → (Nat → Int64) → (Nat → Int32) → Int32 → (Nat → Int64) → (Nat → Int64) → Int32 → Prop) : Prop := q_X1_count p1 cel cells near there ways more (fun (r7 : Int64) (cells_1 : Nat → Int64) (near_2 : Nat → Int32) (there_3 : Int32) (ways_4 : Nat → Int64) (more_5 : Nat → Int64) (thrown_6 : Int32) => P r7 cells_1 near_2 there_3 ways_4 more_5 thrown_6)
set_option maxHeartbeats 4000000 in
set_option maxRecDepth 100000 in
theorem c_X1_tintings (l : Launch) (D : va_G) (cI cJ cZ cA : ClassId) (V : Nat → Nat) (p1 : Int32) (cel : Nat → Int32) (tint : Nat → Int32) (cells : Nat → Int64) (near : Nat → Int32) (there : Int32) (ways : Nat → Int64) (more : Nat → Int64) (thrown : Int32) (P : Int64 → (Nat → Int64) → (Nat → Int32) → Int32 → (Nat → Int64) → (Nat → Int64) → Int32 → Prop) (h : q_X1_tintings p1 cel cells near there ways more P) : xMl l yX1_tintings wsX1_tintings rm_X1_tintings D vwCl (xtys cI cJ cZ cA) (wX1 cI cJ cZ cA V cel tint cells near there ways more thrown) [.ref (V 0), .int p1] (σ := (Nat → Int64) × (Nat → Int32) × Int32 × (Nat → Int64) × (Nat → Int64) × Int32) (fun u => (wX1 cI cJ cZ cA V cel tint u.1 u.2.1 u.2.2.1 u.2.2.2.1 u.2.2.2.2.1 u.2.2.2.2.2)) (fun r u => P r u.1 u.2.1 u.2.2.1 u.2.2.2.1 u.2.2.2.2.1 u.2.2.2.2.2) := by
  refine xMl_of (cc := cX1_tintings) (maxL := 2) (by decide) rfl (Nat.le_of_ble_eq_true rfl) ?_
  intro X K hE
  have K : xk X l rm_X1_tintings D vwCl (xtys cI cJ cZ cA) cX1_tintings RX1 wsX1_tintings 2 := K
  unfold q_X1_tintings at h
  refine x_aload_n (pc := 0) K dX1_tintings_0 0 rfl rfl ?_
  refine x_iload_n (pc := 1) K dX1_tintings_1 1 rfl rfl ?_
  refine x_callVl (pc := 2) (n := 1) K (c_X1_count l D cI cJ cZ cA V p1 cel tint cells near there ways more thrown _ h) rfl rfl gX1_tintings_X1_count rfl (by decide +kernel) ⟨Nat.le_of_ble_eq_true rfl, Nat.le_of_ble_eq_true rfl⟩ rfl (av := [.int p1]) (b := V 0) (ci := 1) (q0 := 0) rfl rfl rfl (Nat.le_of_ble_eq_true rfl) [0, 1, 2, 3, 4, 5, 6] [] (wr := []) rfl rfl rfl rfl (by decide) dX1_tintings_2 ⟨Nat.le_of_ble_eq_true rfl, Nat.le_of_ble_eq_true rfl⟩ (fun r7 u9 h => ?_)
  obtain ⟨cells_1, near_2, there_3, ways_4, more_5, thrown_6⟩ := u9
  refine x_ws (ws' := (wX1 cI cJ cZ cA V cel tint cells_1 near_2 there_3 ways_4 more_5 thrown_6)) rfl ?_
  exact hE r7 (cells_1, near_2, there_3, ways_4, more_5, thrown_6) _ _ h dX1_tintings_5
abbrev rm_X1_tintingsByPairs : Room := { frames := 12, cells := 0, slots := 0, locals := 280 }
def q_X1_tintingsByPairs (p1 : Int32) (cel : Nat → Int32) (cells : Nat → Int64) (near : Nat → Int32) (there : Int32) (ways : Nat → Int64) (more : Nat → Int64) (P : Int64 → (Nat → Int64) → (Nat → Int32) → Int32 → (Nat → Int64) → (Nat → Int64) → Int32 → Prop) : Prop := q_X1_count p1 cel cells near there ways more (fun (r7 : Int64) (cells_1 : Nat → Int64) (near_2 : Nat → Int32) (there_3 : Int32) (ways_4 : Nat → Int64) (more_5 : Nat → Int64) (thrown_6 : Int32) => P r7 cells_1 near_2 there_3 ways_4 more_5 thrown_6)
set_option maxHeartbeats 4000000 in
set_option maxRecDepth 100000 in
theorem c_X1_tintingsByPairs (l : Launch) (D : va_G) (cI cJ cZ cA : ClassId) (V : Nat → Nat) (p1 : Int32) (cel : Nat → Int32) (tint : Nat → Int32) (cells : Nat → Int64) (near : Nat → Int32) (there : Int32) (ways : Nat → Int64) (more : Nat → Int64) (thrown : Int32) (P : Int64 → (Nat → Int64) → (Nat → Int32) → Int32 → (Nat → Int64) → (Nat → Int64) → Int32 → Prop) (h : q_X1_tintingsByPairs p1 cel cells near there ways more P) : xMl l yX1_tintingsByPairs wsX1_tintingsByPairs rm_X1_tintingsByPairs D vwCl (xtys cI cJ cZ cA) (wX1 cI cJ cZ cA V cel tint cells near there ways more thrown) [.ref (V 0), .int p1] (σ := (Nat → Int64) × (Nat → Int32) × Int32 × (Nat → Int64) × (Nat → Int64) × Int32) (fun u => (wX1 cI cJ cZ cA V cel tint u.1 u.2.1 u.2.2.1 u.2.2.2.1 u.2.2.2.2.1 u.2.2.2.2.2)) (fun r u => P r u.1 u.2.1 u.2.2.1 u.2.2.2.1 u.2.2.2.2.1 u.2.2.2.2.2) := by
  refine xMl_of (cc := cX1_tintingsByPairs) (maxL := 2) (by decide) rfl (Nat.le_of_ble_eq_true rfl) ?_
  intro X K hE
  have K : xk X l rm_X1_tintingsByPairs D vwCl (xtys cI cJ cZ cA) cX1_tintingsByPairs RX1 wsX1_tintingsByPairs 2 := K
  unfold q_X1_tintingsByPairs at h
  refine x_aload_n (pc := 0) K dX1_tintingsByPairs_0 0 rfl rfl ?_
  refine x_iload_n (pc := 1) K dX1_tintingsByPairs_1 1 rfl rfl ?_
  refine x_callVl (pc := 2) (n := 1) K (c_X1_count l D cI cJ cZ cA V p1 cel tint cells near there ways more thrown _ h) rfl rfl gX1_tintingsByPairs_X1_count rfl (by decide +kernel) ⟨Nat.le_of_ble_eq_true rfl, Nat.le_of_ble_eq_true rfl⟩ rfl (av := [.int p1]) (b := V 0) (ci := 1) (q0 := 0) rfl rfl rfl (Nat.le_of_ble_eq_true rfl) [0, 1, 2, 3, 4, 5, 6] [] (wr := []) rfl rfl rfl rfl (by decide) dX1_tintingsByPairs_2 ⟨Nat.le_of_ble_eq_true rfl, Nat.le_of_ble_eq_true rfl⟩ (fun r7 u9 h => ?_)
  obtain ⟨cells_1, near_2, there_3, ways_4, more_5, thrown_6⟩ := u9
  refine x_ws (ws' := (wX1 cI cJ cZ cA V cel tint cells_1 near_2 there_3 ways_4 more_5 thrown_6)) rfl ?_
  exact hE r7 (cells_1, near_2, there_3, ways_4, more_5, thrown_6) _ _ h dX1_tintingsByPairs_5
abbrev rm_X1_thrown : Room := { frames := 8, cells := 0, slots := 0, locals := 120 }
theorem inX1_thrown : ∀ w ∈ u_ws RX1 TX1 8, w ∈ wsX1_thrown := by decide +kernel
theorem kX1_thrown_0 : Cond.fieldLink RX1 29 "FourTintsModel" "thrown" "I" ∈ wsX1_thrown := by decide +kernel
def q_X1_thrown (thrown : Int32) (P : Int32 → Prop) : Prop := P thrown
set_option maxHeartbeats 4000000 in
set_option maxRecDepth 100000 in
theorem c_X1_thrown (l : Launch) (D : va_G) (cI cJ cZ cA : ClassId) (V : Nat → Nat) (cel : Nat → Int32) (tint : Nat → Int32) (cells : Nat → Int64) (near : Nat → Int32) (there : Int32) (ways : Nat → Int64) (more : Nat → Int64) (thrown : Int32) (P : Int32 → Prop) (h : q_X1_thrown thrown P) : xMi l yX1_thrown wsX1_thrown rm_X1_thrown D vwCl (xtys cI cJ cZ cA) (wX1 cI cJ cZ cA V cel tint cells near there ways more thrown) [.ref (V 0)] (σ := Unit) (fun _ => (wX1 cI cJ cZ cA V cel tint cells near there ways more thrown)) (fun r _ => P r) := by
  refine xMi_of (cc := cX1_thrown) (maxL := 1) (by decide) rfl (Nat.le_of_ble_eq_true rfl) ?_
  intro X K hE
  have K : xk X l rm_X1_thrown D vwCl (xtys cI cJ cZ cA) cX1_thrown RX1 wsX1_thrown 1 := K
  unfold q_X1_thrown at h
  refine x_aload_n (pc := 0) K dX1_thrown_0 0 rfl rfl ?_
  refine x_get (pc := 1) (ci := 1) (C := RX1) (T := TX1) (N := 8) K (inX1_thrown) 0 rfl rfl 7 (by decide) kX1_thrown_0 rfl rfl dX1_thrown_1 ?_
  exact hE thrown () _ _ h dX1_thrown_4
