abbrev rm_L_tints : Room := { frames := 12, cells := 5, slots := 30, locals := 280 }
theorem kL_tints_0 : Cond.constant RL 18 (-1000001) ∈ wsL_tints := by decide +kernel
theorem kL_tints_1 : Cond.constant RL 21 (-1000002) ∈ wsL_tints := by decide +kernel
def q_L_tints_L28 (u4 : Int32) (u5 : Int32) (worn : Nat → Int32) (nb : Nat → Int32) (P0 : Int32 → Int32 → Prop) : Nat → Int32 → Int32 → Int32 → Prop
  | 0, _, _, _ => False
  | n + 1, x2, x6, x7 => (((10 : Int32) ≤ x7 → P0 x2 x6) ∧ (¬ (10 : Int32) ≤ x7 → xin u4 10 = true ∧ xj1 (fun (v3 : Int32) => xj1 (fun (v5 : Int32) => xl (x2 + v5) (fun y6 => ((v3 = (0 : Int32) → xl (x6 ||| (0 : Int32)) (fun y7 => q_L_tints_L28 u4 u5 worn nb P0 n y6 y7 (x7 + (1 : Int32)))) ∧ (¬ v3 = (0 : Int32) → q0_L_tintOf x7 worn (fun (r8 : Int32) => xl (x6 ||| ((1 : Int32) <<< (r8 &&& 31))) (fun y9 => q_L_tints_L28 u4 u5 worn nb P0 n y6 y9 (x7 + (1 : Int32)))))))) (fun (J4 : Int32 → Prop) => xj0 (J4 (0 : Int32)) (fun (J10 : Prop) => ((v3 = (0 : Int32) → J10) ∧ (¬ v3 = (0 : Int32) → ((u4 ≤ x7 → J10) ∧ (¬ u4 ≤ x7 → ((u5 ≤ (0 : Int32) → J10) ∧ (¬ u5 ≤ (0 : Int32) → q0_L_tintOf x7 worn (fun (r11 : Int32) => ((¬ r11 = u5 → J10) ∧ (r11 = u5 → J4 (1 : Int32))))))))))))) (fun (J2 : Int32 → Prop) => ((¬ (((nb u4.toNatClampNeg) >>> (x7 &&& 31)) &&& (1 : Int32)) = (1 : Int32) → J2 (0 : Int32)) ∧ ((((nb u4.toNatClampNeg) >>> (x7 &&& 31)) &&& (1 : Int32)) = (1 : Int32) → J2 (1 : Int32))))))
def q_L_tints_L7 (land : Nat → Int64) (near : Nat → Int32) (worn : Nat → Int32) (nb : Nat → Int32) (P0 : Int32 → Int32 → Prop) (P1 : Prop) : Nat → Int32 → Int32 → Int32 → Prop
  | 0, _, _, _ => False
  | n + 1, x2, x3, x4 => (((10 : Int32) ≤ x4 → P0 x2 x3) ∧ (¬ (10 : Int32) ≤ x4 → q0_L_tintOf x4 worn (fun (r1 : Int32) => (∃ n12 : Nat, q_L_tints_L28 x4 r1 worn nb (fun (v13 : Int32) (v14 : Int32) => xj1 (fun (v16 : Int32) => q0_L_leastFree x4 near worn (fun (r17 : Int32) => ((r1 < (0 : Int32) → P1) ∧ (¬ r1 < (0 : Int32) → (((10 : Int32) < r1 → P1) ∧ (¬ (10 : Int32) < r1 → ((r17 < (1 : Int32) → P1) ∧ (¬ r17 < (1 : Int32) → (((10 : Int32) < r17 → P1) ∧ (¬ (10 : Int32) < r17 → ((((v14 >>> (r17 &&& 31)) &&& (1 : Int32)) = (1 : Int32) → P1) ∧ (¬ ((v14 >>> (r17 &&& 31)) &&& (1 : Int32)) = (1 : Int32) → (((v14 &&& (((1 : Int32) <<< (r17 &&& 31)) - (2 : Int32))) = (((1 : Int32) <<< (r17 &&& 31)) - (2 : Int32)) → q_L_tints_L7 land near worn nb P0 P1 n v13 v16 (x4 + (1 : Int32))) ∧ (¬ (v14 &&& (((1 : Int32) <<< (r17 &&& 31)) - (2 : Int32))) = (((1 : Int32) <<< (r17 &&& 31)) - (2 : Int32)) → P1)))))))))))))) (fun (J15 : Int32 → Prop) => xj0 (J15 (0 : Int32)) (fun (J18 : Prop) => ((x3 = (0 : Int32) → J18) ∧ (¬ x3 = (0 : Int32) → q0_L_area x4 land (fun (r19 : Int32) => xj0 (J15 (1 : Int32)) (fun (J20 : Prop) => ((r19 = (0 : Int32) → J20) ∧ (¬ r19 = (0 : Int32) → ((r1 ≤ (0 : Int32) → J18) ∧ (¬ r1 ≤ (0 : Int32) → J20))))))))))) n12 x2 (0 : Int32) (0 : Int32)))))
def q_L_tints (land : Nat → Int64) (there : Int32) (near : Nat → Int32) (worn : Nat → Int32) (nb : Nat → Int32) (P : Int32 → (Nat → Int32) → Prop) : Prop := (∃ n21 : Nat, q_L_tints_L7 land near worn nb (fun (v22 : Int32) (v23 : Int32) => q_X0_conflicts near worn (fun (r24 : Int32) => ((¬ r24 = v22 → (xbool (0 : Int32) ∧ P (0 : Int32) worn)) ∧ (r24 = v22 → q_X0_isTinted there near worn (fun (r25 : Int32) => xj1 (fun (v27 : Int32) => ((¬ r25 = v27 → (xbool (0 : Int32) ∧ P (0 : Int32) worn)) ∧ (r25 = v27 → q_L_tint (10 : Int32) (11 : Int32) worn (fun (r29 : Int32) (worn_28 : Nat → Int32) => ((¬ r29 = (-1000001 : Int32) → (xbool (0 : Int32) ∧ P (0 : Int32) worn_28)) ∧ (r29 = (-1000001 : Int32) → q_L_tint (0 : Int32) (11 : Int32) worn_28 (fun (r31 : Int32) (worn_30 : Nat → Int32) => ((¬ r31 = (-1000002 : Int32) → (xbool (0 : Int32) ∧ P (0 : Int32) worn_30)) ∧ (r31 = (-1000002 : Int32) → q_L_leastFree (-1 : Int32) near worn_30 (fun (r32 : Int32) => ((¬ r32 = (-1000001 : Int32) → (xbool (0 : Int32) ∧ P (0 : Int32) worn_30)) ∧ (r32 = (-1000001 : Int32) → (xbool (1 : Int32) ∧ P (1 : Int32) worn_30))))))))))))) (fun (J26 : Int32 → Prop) => xj0 (J26 (0 : Int32)) (fun (J33 : Prop) => ((v23 = (0 : Int32) → J33) ∧ (¬ v23 = (0 : Int32) → ((¬ v22 = (0 : Int32) → J33) ∧ (v22 = (0 : Int32) → J26 (1 : Int32)))))))))))) ((xbool (0 : Int32) ∧ P (0 : Int32) worn)) n21 (0 : Int32) (1 : Int32) (0 : Int32))
set_option maxHeartbeats 4000000 in
set_option maxRecDepth 100000 in
theorem w_L_tints_L28 {X : xC} {l : Launch} {D : va_G} {cI cJ cZ cA : ClassId} {V : Nat → Nat} {a_nb : Nat} (K : xk X l rm_L_tints D vwCl (xtys cI cJ cZ cA) cL_tints RL wsL_tints 9) (u3 : Int32) (u4 : Int32) (u5 : Int32) (land : Nat → Int64) (there : Int32) (near : Nat → Int32) (worn : Nat → Int32) (trial : Nat → Int32) (fits : Nat → Int32) (ways : Nat → Int64) (joined : Nat → Nat → Int32) (nb : Nat → Int32) (hE : xEx X RX0 [(183, "there is no such country"), (187, "there is no such tint")]) (hN : xno X) (hst : l.stackTraces = false) (P0 : Int32 → Int32 → Prop) : ∀ (n : Nat) (x2 : Int32) (x6 : Int32) (x7 : Int32), q_L_tints_L28 u4 u5 worn nb P0 n x2 x6 x7 → (∀ (z0 : Int32) (z1 : Int32), P0 z0 z1 → xw X 0 0 119 [(0, .ref (V 0)), (1, .ref a_nb), (2, .int z0), (3, .int u3), (4, .int u4), (5, .int u5), (6, .int z1)] [] ((wX0J cI cJ cZ cA V land there near worn trial fits ways joined) ++ [(a_nb, .inl (cI, 10, .inl nb))])) → xw X 0 0 28 [(0, .ref (V 0)), (1, .ref a_nb), (2, .int x2), (3, .int u3), (4, .int u4), (5, .int u5), (6, .int x6), (7, .int x7)] [] ((wX0J cI cJ cZ cA V land there near worn trial fits ways joined) ++ [(a_nb, .inl (cI, 10, .inl nb))]) := by
  intro n
  induction n with
  | zero =>
    intro x2 x6 x7 h
    rw [q_L_tints_L28] at h
    exact h.elim
  | succ n ih =>
    intro x2 x6 x7 h k0
    rw [q_L_tints_L28] at h
    refine x_iload (pc := 28) K dL_tints_28 7 rfl ?_
    refine x_bipush (v := (10)) (pc := 30) K dL_tints_30 (by decide) ?_
    refine x_icmp_ge (pc := 32) K dL_tints_32 (tgt := 119) (by decide) (fun c9 => ?_) (fun c9 => ?_)
    · have h := h.1 c9
      refine x_keep [true, true, true, true, true, true, true, false] rfl ?_
      exact k0 x2 x6 h
    · have h := h.2 c9
      refine x_aload_n (pc := 35) K dL_tints_35 1 rfl rfl ?_
      refine x_iload (pc := 36) K dL_tints_36 4 rfl ?_
      have g9 := h.1
      replace h := h.2
      refine x_iald (pc := 38) K 18 0 rfl rfl g9 dL_tints_38 ?_
      clear g9
      refine x_iload (pc := 39) K dL_tints_39 7 rfl ?_
      refine x_ishr (pc := 41) K dL_tints_41 ?_
      refine x_iconst (v := (1)) (pc := 42) K dL_tints_42 (by decide) ?_
      refine x_iand (pc := 43) K dL_tints_43 ?_
      refine x_iconst (v := (1)) (pc := 44) K dL_tints_44 (by decide) ?_
      obtain ⟨J2, hJ2, h⟩ := xj1_o h
      have kJ2 : ∀ (v3 : Int32), J2 v3 → xw X 0 0 53 [(0, .ref (V 0)), (1, .ref a_nb), (2, .int x2), (3, .int u3), (4, .int u4), (5, .int u5), (6, .int x6), (7, .int x7)] [.int v3] ((wX0J cI cJ cZ cA V land there near worn trial fits ways joined) ++ [(a_nb, .inl (cI, 10, .inl nb))]) := by
        intro v3 hj
        have h := hJ2 v3 hj
        refine x_istore (lv' := [(0, .ref (V 0)), (1, .ref a_nb), (2, .int x2), (3, .int u3), (4, .int u4), (5, .int u5), (6, .int x6), (7, .int x7), (8, .int v3)]) (pc := 53) K dL_tints_53 (by decide) rfl ?_
        refine x_iload_n (pc := 55) K dL_tints_55 2 rfl rfl ?_
        refine x_iload (pc := 56) K dL_tints_56 8 rfl ?_
        obtain ⟨J4, hJ4, h⟩ := xj1_o h
        have kJ4 : ∀ (v5 : Int32), J4 v5 → xw X 0 0 89 [(0, .ref (V 0)), (1, .ref a_nb), (3, .int u3), (4, .int u4), (5, .int u5), (6, .int x6), (7, .int x7), (8, .int v3)] [.int v5, .int x2] ((wX0J cI cJ cZ cA V land there near worn trial fits ways joined) ++ [(a_nb, .inl (cI, 10, .inl nb))]) := by
          intro v5 hj
          have h := hJ4 v5 hj
          refine x_iadd (pc := 89) K dL_tints_89 ?_
          obtain ⟨y6, ey6, h⟩ := xl_o h
          refine x_topi ey6 ?_
          clear ey6
          refine x_istore_n (lv' := [(0, .ref (V 0)), (1, .ref a_nb), (2, .int y6), (3, .int u3), (4, .int u4), (5, .int u5), (6, .int x6), (7, .int x7), (8, .int v3)]) (pc := 90) K dL_tints_90 rfl (by decide) rfl ?_
          refine x_iload (pc := 91) K dL_tints_91 6 rfl ?_
          refine x_iload (pc := 93) K dL_tints_93 8 rfl ?_
          refine x_if_eq (pc := 95) K dL_tints_95 (tgt := 109) (by decide) (fun c9 => ?_) (fun c9 => ?_)
          · have h := h.1 c9
            refine x_keep [true, true, true, true, true, true, false, true, false] rfl ?_
            refine x_iconst (v := (0)) (pc := 109) K dL_tints_109 (by decide) ?_
            refine x_ior (pc := 110) K dL_tints_110 ?_
            obtain ⟨y7, ey7, h⟩ := xl_o h
            refine x_topi ey7 ?_
            clear ey7
            refine x_istore (lv' := [(0, .ref (V 0)), (1, .ref a_nb), (2, .int y6), (3, .int u3), (4, .int u4), (5, .int u5), (6, .int y7), (7, .int x7)]) (pc := 111) K dL_tints_111 (by decide) rfl ?_
            refine x_iinc (v := x7 + (1 : Int32)) (lv' := [(0, .ref (V 0)), (1, .ref a_nb), (2, .int y6), (3, .int u3), (4, .int u4), (5, .int u5), (6, .int y7), (7, .int (x7 + (1 : Int32)))]) (pc := 113) K dL_tints_113 (k := 7) rfl rfl (by decide) rfl ?_
            refine x_goto (pc := 116) K dL_tints_116 (tgt := 28) (by decide) ?_
            exact ih y6 y7 (x7 + (1 : Int32)) h k0
          · have h := h.2 c9
            refine x_keep [true, true, true, true, true, true, false, true, false] rfl ?_
            refine x_iconst (v := (1)) (pc := 98) K dL_tints_98 (by decide) ?_
            refine x_aload_n (pc := 99) K dL_tints_99 0 rfl rfl ?_
            refine x_iload (pc := 100) K dL_tints_100 6 rfl ?_
            refine x_wcallSi (pc := 102) (n := 2) K (c0_L_tintOf l D cI cJ cZ cA V x7 land there near worn trial fits ways joined _ h) rfl rfl gL_tints_L_tintOf rfl (by decide +kernel) ⟨Nat.le_of_ble_eq_true rfl, Nat.le_of_ble_eq_true rfl⟩ rfl (av := [.ref (V 0), .int x7]) rfl (Nat.le_of_ble_eq_true rfl) [0, 1, 2, 3, 4, 5, 6, 7, 8, 9, 10, 11, 12, 13, 14, 15, 16, 17] [18] (wr := [(a_nb, .inl (cI, 10, .inl nb))]) rfl rfl rfl rfl (by decide) dL_tints_102 ⟨Nat.le_of_ble_eq_true rfl, Nat.le_of_ble_eq_true rfl⟩ (fun r8 u9 h => ?_)
            refine x_wsub (ws' := ((wX0J cI cJ cZ cA V land there near worn trial fits ways joined) ++ [(a_nb, .inl (cI, 10, .inl nb))])) [1, 2, 3, 4, 5, 6, 7, 8, 9, 10, 11, 12, 13, 14, 15, 16, 17, 18, 0] rfl rfl ?_
            refine x_ishl (pc := 105) K dL_tints_105 ?_
            refine x_goto (pc := 106) K dL_tints_106 (tgt := 110) (by decide) ?_
            refine x_ior (pc := 110) K dL_tints_110 ?_
            obtain ⟨y9, ey9, h⟩ := xl_o h
            refine x_topi ey9 ?_
            clear ey9
            refine x_istore (lv' := [(0, .ref (V 0)), (1, .ref a_nb), (2, .int y6), (3, .int u3), (4, .int u4), (5, .int u5), (6, .int y9), (7, .int x7)]) (pc := 111) K dL_tints_111 (by decide) rfl ?_
            refine x_iinc (v := x7 + (1 : Int32)) (lv' := [(0, .ref (V 0)), (1, .ref a_nb), (2, .int y6), (3, .int u3), (4, .int u4), (5, .int u5), (6, .int y9), (7, .int (x7 + (1 : Int32)))]) (pc := 113) K dL_tints_113 (k := 7) rfl rfl (by decide) rfl ?_
            refine x_goto (pc := 116) K dL_tints_116 (tgt := 28) (by decide) ?_
            exact ih y6 y9 (x7 + (1 : Int32)) h k0
        obtain ⟨J10, hJ10, h⟩ := xj0_o h
        have kJ10 : J10 → xw X 0 0 88 [(0, .ref (V 0)), (1, .ref a_nb), (3, .int u3), (4, .int u4), (5, .int u5), (6, .int x6), (7, .int x7), (8, .int v3)] [.int x2] ((wX0J cI cJ cZ cA V land there near worn trial fits ways joined) ++ [(a_nb, .inl (cI, 10, .inl nb))]) := by
          intro  hj
          have h := hJ10  hj
          refine x_iconst (v := (0)) (pc := 88) K dL_tints_88 (by decide) ?_
          exact kJ4 (0 : Int32) h
        refine x_if_eq (pc := 58) K dL_tints_58 (tgt := 88) (by decide) (fun c9 => ?_) (fun c9 => ?_)
        · have h := h.1 c9
          refine x_keep [true, true, false, true, true, true, true, true, true] rfl ?_
          exact kJ10  h
        · have h := h.2 c9
          refine x_keep [true, true, false, true, true, true, true, true, true] rfl ?_
          refine x_iload (pc := 61) K dL_tints_61 6 rfl ?_
          refine x_iload (pc := 63) K dL_tints_63 3 rfl ?_
          refine x_icmp_ge (pc := 65) K dL_tints_65 (tgt := 88) (by decide) (fun c9 => ?_) (fun c9 => ?_)
          · have h := h.1 c9
            exact kJ10  h
          · have h := h.2 c9
            refine x_iload (pc := 68) K dL_tints_68 4 rfl ?_
            refine x_if_le (pc := 70) K dL_tints_70 (tgt := 88) (by decide) (fun c9 => ?_) (fun c9 => ?_)
            · have h := h.1 c9
              exact kJ10  h
            · have h := h.2 c9
              refine x_aload_n (pc := 73) K dL_tints_73 0 rfl rfl ?_
              refine x_iload (pc := 74) K dL_tints_74 6 rfl ?_
              refine x_wcallSi (pc := 76) (n := 2) K (c0_L_tintOf l D cI cJ cZ cA V x7 land there near worn trial fits ways joined _ h) rfl rfl gL_tints_L_tintOf rfl (by decide +kernel) ⟨Nat.le_of_ble_eq_true rfl, Nat.le_of_ble_eq_true rfl⟩ rfl (av := [.ref (V 0), .int x7]) rfl (Nat.le_of_ble_eq_true rfl) [0, 1, 2, 3, 4, 5, 6, 7, 8, 9, 10, 11, 12, 13, 14, 15, 16, 17] [18] (wr := [(a_nb, .inl (cI, 10, .inl nb))]) rfl rfl rfl rfl (by decide) dL_tints_76 ⟨Nat.le_of_ble_eq_true rfl, Nat.le_of_ble_eq_true rfl⟩ (fun r11 u9 h => ?_)
              refine x_wsub (ws' := ((wX0J cI cJ cZ cA V land there near worn trial fits ways joined) ++ [(a_nb, .inl (cI, 10, .inl nb))])) [1, 2, 3, 4, 5, 6, 7, 8, 9, 10, 11, 12, 13, 14, 15, 16, 17, 18, 0] rfl rfl ?_
              refine x_iload (pc := 79) K dL_tints_79 4 rfl ?_
              refine x_icmp_ne (pc := 81) K dL_tints_81 (tgt := 88) (by decide) (fun c9 => ?_) (fun c9 => ?_)
              · have h := h.1 c9
                exact kJ10  h
              · have h := h.2 c9
                refine x_iconst (v := (1)) (pc := 84) K dL_tints_84 (by decide) ?_
                refine x_goto (pc := 85) K dL_tints_85 (tgt := 89) (by decide) ?_
                exact kJ4 (1 : Int32) h
      refine x_icmp_ne (pc := 45) K dL_tints_45 (tgt := 52) (by decide) (fun c9 => ?_) (fun c9 => ?_)
      · have h := h.1 c9
        refine x_iconst (v := (0)) (pc := 52) K dL_tints_52 (by decide) ?_
        exact kJ2 (0 : Int32) h
      · have h := h.2 c9
        refine x_iconst (v := (1)) (pc := 48) K dL_tints_48 (by decide) ?_
        refine x_goto (pc := 49) K dL_tints_49 (tgt := 53) (by decide) ?_
        exact kJ2 (1 : Int32) h
set_option maxHeartbeats 4000000 in
set_option maxRecDepth 100000 in
theorem w_L_tints_L7 {X : xC} {l : Launch} {D : va_G} {cI cJ cZ cA : ClassId} {V : Nat → Nat} {a_nb : Nat} (K : xk X l rm_L_tints D vwCl (xtys cI cJ cZ cA) cL_tints RL wsL_tints 9) (land : Nat → Int64) (there : Int32) (near : Nat → Int32) (worn : Nat → Int32) (trial : Nat → Int32) (fits : Nat → Int32) (ways : Nat → Int64) (joined : Nat → Nat → Int32) (nb : Nat → Int32) (hE : xEx X RX0 [(183, "there is no such country"), (187, "there is no such tint")]) (hN : xno X) (hst : l.stackTraces = false) (P0 : Int32 → Int32 → Prop) (P1 : Prop) : ∀ (n : Nat) (x2 : Int32) (x3 : Int32) (x4 : Int32), q_L_tints_L7 land near worn nb P0 P1 n x2 x3 x4 → (∀ (z0 : Int32) (z1 : Int32), P0 z0 z1 → xw X 0 0 213 [(0, .ref (V 0)), (2, .int z0), (3, .int z1)] [] ((wX0J cI cJ cZ cA V land there near worn trial fits ways joined) ++ [(a_nb, .inl (cI, 10, .inl nb))])) → (P1 → xw X 0 0 205 [] [] ((wX0J cI cJ cZ cA V land there near worn trial fits ways joined) ++ [(a_nb, .inl (cI, 10, .inl nb))])) → xw X 0 0 7 [(0, .ref (V 0)), (1, .ref a_nb), (2, .int x2), (3, .int x3), (4, .int x4)] [] ((wX0J cI cJ cZ cA V land there near worn trial fits ways joined) ++ [(a_nb, .inl (cI, 10, .inl nb))]) := by
  intro n
  induction n with
  | zero =>
    intro x2 x3 x4 h
    rw [q_L_tints_L7] at h
    exact h.elim
  | succ n ih =>
    intro x2 x3 x4 h k0 k1
    rw [q_L_tints_L7] at h
    refine x_iload (pc := 7) K dL_tints_7 4 rfl ?_
    refine x_bipush (v := (10)) (pc := 9) K dL_tints_9 (by decide) ?_
    refine x_icmp_ge (pc := 11) K dL_tints_11 (tgt := 213) (by decide) (fun c9 => ?_) (fun c9 => ?_)
    · have h := h.1 c9
      refine x_keep [true, false, true, true, false] rfl ?_
      exact k0 x2 x3 h
    · have h := h.2 c9
      refine x_aload_n (pc := 14) K dL_tints_14 0 rfl rfl ?_
      refine x_iload (pc := 15) K dL_tints_15 4 rfl ?_
      refine x_wcallSi (pc := 17) (n := 2) K (c0_L_tintOf l D cI cJ cZ cA V x4 land there near worn trial fits ways joined _ h) rfl rfl gL_tints_L_tintOf rfl (by decide +kernel) ⟨Nat.le_of_ble_eq_true rfl, Nat.le_of_ble_eq_true rfl⟩ rfl (av := [.ref (V 0), .int x4]) rfl (Nat.le_of_ble_eq_true rfl) [0, 1, 2, 3, 4, 5, 6, 7, 8, 9, 10, 11, 12, 13, 14, 15, 16, 17] [18] (wr := [(a_nb, .inl (cI, 10, .inl nb))]) rfl rfl rfl rfl (by decide) dL_tints_17 ⟨Nat.le_of_ble_eq_true rfl, Nat.le_of_ble_eq_true rfl⟩ (fun r1 u9 h => ?_)
      refine x_wsub (ws' := ((wX0J cI cJ cZ cA V land there near worn trial fits ways joined) ++ [(a_nb, .inl (cI, 10, .inl nb))])) [1, 2, 3, 4, 5, 6, 7, 8, 9, 10, 11, 12, 13, 14, 15, 16, 17, 18, 0] rfl rfl ?_
      refine x_istore (lv' := [(0, .ref (V 0)), (1, .ref a_nb), (2, .int x2), (3, .int x3), (4, .int x4), (5, .int r1)]) (pc := 20) K dL_tints_20 (by decide) rfl ?_
      refine x_iconst (v := (0)) (pc := 22) K dL_tints_22 (by decide) ?_
      refine x_istore (lv' := [(0, .ref (V 0)), (1, .ref a_nb), (2, .int x2), (3, .int x3), (4, .int x4), (5, .int r1), (6, .int (0 : Int32))]) (pc := 23) K dL_tints_23 (by decide) rfl ?_
      refine x_iconst (v := (0)) (pc := 25) K dL_tints_25 (by decide) ?_
      refine x_istore (lv' := [(0, .ref (V 0)), (1, .ref a_nb), (2, .int x2), (3, .int x3), (4, .int x4), (5, .int r1), (6, .int (0 : Int32)), (7, .int (0 : Int32))]) (pc := 26) K dL_tints_26 (by decide) rfl ?_
      obtain ⟨n12, h⟩ := h
      refine w_L_tints_L28 K x3 x4 r1 land there near worn trial fits ways joined nb hE hN hst _ n12 x2 (0 : Int32) (0 : Int32) h (fun v13 v14 h => ?_)
      refine x_iload_n (pc := 119) K dL_tints_119 3 rfl rfl ?_
      obtain ⟨J15, hJ15, h⟩ := xj1_o h
      have kJ15 : ∀ (v16 : Int32), J15 v16 → xw X 0 0 142 [(0, .ref (V 0)), (1, .ref a_nb), (2, .int v13), (4, .int x4), (5, .int r1), (6, .int v14)] [.int v16] ((wX0J cI cJ cZ cA V land there near worn trial fits ways joined) ++ [(a_nb, .inl (cI, 10, .inl nb))]) := by
        intro v16 hj
        have h := hJ15 v16 hj
        refine x_istore_n (lv' := [(0, .ref (V 0)), (1, .ref a_nb), (2, .int v13), (3, .int v16), (4, .int x4), (5, .int r1), (6, .int v14)]) (pc := 142) K dL_tints_142 rfl (by decide) rfl ?_
        refine x_aload_n (pc := 143) K dL_tints_143 0 rfl rfl ?_
        refine x_iload (pc := 144) K dL_tints_144 4 rfl ?_
        refine x_wcallSi (pc := 146) (n := 2) K (c0_L_leastFree l D cI cJ cZ cA V x4 land there near worn trial fits ways joined _ h) rfl rfl gL_tints_L_leastFree rfl (by decide +kernel) ⟨Nat.le_of_ble_eq_true rfl, Nat.le_of_ble_eq_true rfl⟩ rfl (av := [.ref (V 0), .int x4]) rfl (Nat.le_of_ble_eq_true rfl) [0, 1, 2, 3, 4, 5, 6, 7, 8, 9, 10, 11, 12, 13, 14, 15, 16, 17] [18] (wr := [(a_nb, .inl (cI, 10, .inl nb))]) rfl rfl rfl rfl (by decide) dL_tints_146 ⟨Nat.le_of_ble_eq_true rfl, Nat.le_of_ble_eq_true rfl⟩ (fun r17 u9 h => ?_)
        refine x_wsub (ws' := ((wX0J cI cJ cZ cA V land there near worn trial fits ways joined) ++ [(a_nb, .inl (cI, 10, .inl nb))])) [1, 2, 3, 4, 5, 6, 7, 8, 9, 10, 11, 12, 13, 14, 15, 16, 17, 18, 0] rfl rfl ?_
        refine x_istore (lv' := [(0, .ref (V 0)), (1, .ref a_nb), (2, .int v13), (3, .int v16), (4, .int x4), (5, .int r1), (6, .int v14), (7, .int r17)]) (pc := 149) K dL_tints_149 (by decide) rfl ?_
        refine x_iload (pc := 151) K dL_tints_151 5 rfl ?_
        refine x_if_lt (pc := 153) K dL_tints_153 (tgt := 205) (by decide) (fun c9 => ?_) (fun c9 => ?_)
        · have h := h.1 c9
          refine x_keep [false, false, false, false, false, false, false, false] rfl ?_
          exact k1  h
        · have h := h.2 c9
          refine x_iload (pc := 156) K dL_tints_156 5 rfl ?_
          refine x_bipush (v := (10)) (pc := 158) K dL_tints_158 (by decide) ?_
          refine x_icmp_gt (pc := 160) K dL_tints_160 (tgt := 205) (by decide) (fun c9 => ?_) (fun c9 => ?_)
          · have h := h.1 c9
            refine x_keep [false, false, false, false, false, false, false, false] rfl ?_
            exact k1  h
          · have h := h.2 c9
            refine x_keep [true, true, true, true, true, false, true, true] rfl ?_
            refine x_iload (pc := 163) K dL_tints_163 6 rfl ?_
            refine x_iconst (v := (1)) (pc := 165) K dL_tints_165 (by decide) ?_
            refine x_icmp_lt (pc := 166) K dL_tints_166 (tgt := 205) (by decide) (fun c9 => ?_) (fun c9 => ?_)
            · have h := h.1 c9
              refine x_keep [false, false, false, false, false, false, false] rfl ?_
              exact k1  h
            · have h := h.2 c9
              refine x_iload (pc := 169) K dL_tints_169 6 rfl ?_
              refine x_bipush (v := (10)) (pc := 171) K dL_tints_171 (by decide) ?_
              refine x_icmp_gt (pc := 173) K dL_tints_173 (tgt := 205) (by decide) (fun c9 => ?_) (fun c9 => ?_)
              · have h := h.1 c9
                refine x_keep [false, false, false, false, false, false, false] rfl ?_
                exact k1  h
              · have h := h.2 c9
                refine x_iload (pc := 176) K dL_tints_176 5 rfl ?_
                refine x_iload (pc := 178) K dL_tints_178 6 rfl ?_
                refine x_ishr (pc := 180) K dL_tints_180 ?_
                refine x_iconst (v := (1)) (pc := 181) K dL_tints_181 (by decide) ?_
                refine x_iand (pc := 182) K dL_tints_182 ?_
                refine x_iconst (v := (1)) (pc := 183) K dL_tints_183 (by decide) ?_
                refine x_icmp_eq (pc := 184) K dL_tints_184 (tgt := 205) (by decide) (fun c9 => ?_) (fun c9 => ?_)
                · have h := h.1 c9
                  refine x_keep [false, false, false, false, false, false, false] rfl ?_
                  exact k1  h
                · have h := h.2 c9
                  refine x_iload (pc := 187) K dL_tints_187 5 rfl ?_
                  refine x_iconst (v := (1)) (pc := 189) K dL_tints_189 (by decide) ?_
                  refine x_iload (pc := 190) K dL_tints_190 6 rfl ?_
                  refine x_ishl (pc := 192) K dL_tints_192 ?_
                  refine x_iconst (v := (2)) (pc := 193) K dL_tints_193 (by decide) ?_
                  refine x_isub (pc := 194) K dL_tints_194 ?_
                  refine x_iand (pc := 195) K dL_tints_195 ?_
                  refine x_iconst (v := (1)) (pc := 196) K dL_tints_196 (by decide) ?_
                  refine x_iload (pc := 197) K dL_tints_197 6 rfl ?_
                  refine x_ishl (pc := 199) K dL_tints_199 ?_
                  refine x_iconst (v := (2)) (pc := 200) K dL_tints_200 (by decide) ?_
                  refine x_isub (pc := 201) K dL_tints_201 ?_
                  refine x_icmp_eq (pc := 202) K dL_tints_202 (tgt := 207) (by decide) (fun c9 => ?_) (fun c9 => ?_)
                  · have h := h.1 c9
                    refine x_keep [true, true, true, true, true, false, false] rfl ?_
                    refine x_iinc (v := x4 + (1 : Int32)) (lv' := [(0, .ref (V 0)), (1, .ref a_nb), (2, .int v13), (3, .int v16), (4, .int (x4 + (1 : Int32)))]) (pc := 207) K dL_tints_207 (k := 4) rfl rfl (by decide) rfl ?_
                    refine x_goto (pc := 210) K dL_tints_210 (tgt := 7) (by decide) ?_
                    exact ih v13 v16 (x4 + (1 : Int32)) h k0 k1
                  · have h := h.2 c9
                    refine x_keep [false, false, false, false, false, false, false] rfl ?_
                    exact k1  h
      obtain ⟨J18, hJ18, h⟩ := xj0_o h
      have kJ18 : J18 → xw X 0 0 141 [(0, .ref (V 0)), (1, .ref a_nb), (2, .int v13), (4, .int x4), (5, .int r1), (6, .int v14)] [] ((wX0J cI cJ cZ cA V land there near worn trial fits ways joined) ++ [(a_nb, .inl (cI, 10, .inl nb))]) := by
        intro  hj
        have h := hJ18  hj
        refine x_iconst (v := (0)) (pc := 141) K dL_tints_141 (by decide) ?_
        exact kJ15 (0 : Int32) h
      refine x_if_eq (pc := 120) K dL_tints_120 (tgt := 141) (by decide) (fun c9 => ?_) (fun c9 => ?_)
      · have h := h.1 c9
        refine x_keep [true, true, true, false, true, true, true] rfl ?_
        exact kJ18  h
      · have h := h.2 c9
        refine x_keep [true, true, true, false, true, true, true] rfl ?_
        refine x_aload_n (pc := 123) K dL_tints_123 0 rfl rfl ?_
        refine x_iload (pc := 124) K dL_tints_124 3 rfl ?_
        refine x_wcallSi (pc := 126) (n := 2) K (c0_L_area l D cI cJ cZ cA V x4 land there near worn trial fits ways joined _ h) rfl rfl gL_tints_L_area rfl (by decide +kernel) ⟨Nat.le_of_ble_eq_true rfl, Nat.le_of_ble_eq_true rfl⟩ rfl (av := [.ref (V 0), .int x4]) rfl (Nat.le_of_ble_eq_true rfl) [0, 1, 2, 3, 4, 5, 6, 7, 8, 9, 10, 11, 12, 13, 14, 15, 16, 17] [18] (wr := [(a_nb, .inl (cI, 10, .inl nb))]) rfl rfl rfl rfl (by decide) dL_tints_126 ⟨Nat.le_of_ble_eq_true rfl, Nat.le_of_ble_eq_true rfl⟩ (fun r19 u9 h => ?_)
        refine x_wsub (ws' := ((wX0J cI cJ cZ cA V land there near worn trial fits ways joined) ++ [(a_nb, .inl (cI, 10, .inl nb))])) [1, 2, 3, 4, 5, 6, 7, 8, 9, 10, 11, 12, 13, 14, 15, 16, 17, 18, 0] rfl rfl ?_
        obtain ⟨J20, hJ20, h⟩ := xj0_o h
        have kJ20 : J20 → xw X 0 0 137 [(0, .ref (V 0)), (1, .ref a_nb), (2, .int v13), (4, .int x4), (5, .int r1), (6, .int v14)] [] ((wX0J cI cJ cZ cA V land there near worn trial fits ways joined) ++ [(a_nb, .inl (cI, 10, .inl nb))]) := by
          intro  hj
          have h := hJ20  hj
          refine x_iconst (v := (1)) (pc := 137) K dL_tints_137 (by decide) ?_
          refine x_goto (pc := 138) K dL_tints_138 (tgt := 142) (by decide) ?_
          exact kJ15 (1 : Int32) h
        refine x_if_eq (pc := 129) K dL_tints_129 (tgt := 137) (by decide) (fun c9 => ?_) (fun c9 => ?_)
        · have h := h.1 c9
          exact kJ20  h
        · have h := h.2 c9
          refine x_iload (pc := 132) K dL_tints_132 4 rfl ?_
          refine x_if_le (pc := 134) K dL_tints_134 (tgt := 141) (by decide) (fun c9 => ?_) (fun c9 => ?_)
          · have h := h.1 c9
            exact kJ18  h
          · have h := h.2 c9
            exact kJ20  h
set_option maxHeartbeats 4000000 in
set_option maxRecDepth 100000 in
theorem c_L_tints (l : Launch) (D : va_G) (cI cJ cZ cA : ClassId) (hst : l.stackTraces = false) (V : Nat → Nat) (a_nb : Nat) (land : Nat → Int64) (there : Int32) (near : Nat → Int32) (worn : Nat → Int32) (trial : Nat → Int32) (fits : Nat → Int32) (ways : Nat → Int64) (joined : Nat → Nat → Int32) (nb : Nat → Int32) (P : Int32 → (Nat → Int32) → Prop) (h : q_L_tints land there near worn nb P) : xHz l yL_tints wsL_tints rm_L_tints D vwCl (xtys cI cJ cZ cA) ((wX0J cI cJ cZ cA V land there near worn trial fits ways joined) ++ [(a_nb, .inl (cI, 10, .inl nb))]) [.ref (V 0), .ref a_nb] RX0 [(183, "there is no such country"), (187, "there is no such tint")] (σ := (Nat → Int32)) (fun u => ((wX0J cI cJ cZ cA V land there near u trial fits ways joined) ++ [(a_nb, .inl (cI, 10, .inl nb))])) (fun r u => P r u) 5 30 := by
  refine xHz_of (cc := cL_tints) (maxL := 9) (by decide) rfl (Nat.le_of_ble_eq_true rfl) ?_
  intro X K hE hN hX
  have K : xk X l rm_L_tints D vwCl (xtys cI cJ cZ cA) cL_tints RL wsL_tints 9 := K
  unfold q_L_tints at h
  refine x_iconst (v := (0)) (pc := 0) K dL_tints_0 (by decide) ?_
  refine x_istore_n (lv' := [(0, .ref (V 0)), (1, .ref a_nb), (2, .int (0 : Int32))]) (pc := 1) K dL_tints_1 rfl (by decide) rfl ?_
  refine x_iconst (v := (1)) (pc := 2) K dL_tints_2 (by decide) ?_
  refine x_istore_n (lv' := [(0, .ref (V 0)), (1, .ref a_nb), (2, .int (0 : Int32)), (3, .int (1 : Int32))]) (pc := 3) K dL_tints_3 rfl (by decide) rfl ?_
  refine x_iconst (v := (0)) (pc := 4) K dL_tints_4 (by decide) ?_
  refine x_istore (lv' := [(0, .ref (V 0)), (1, .ref a_nb), (2, .int (0 : Int32)), (3, .int (1 : Int32)), (4, .int (0 : Int32))]) (pc := 5) K dL_tints_5 (by decide) rfl ?_
  obtain ⟨n21, h⟩ := h
  refine w_L_tints_L7 K land there near worn trial fits ways joined nb hE hN hst _ _ n21 (0 : Int32) (1 : Int32) (0 : Int32) h (fun v22 v23 h => ?_) (fun  h => ?_)
  · refine x_aload_n (pc := 213) K dL_tints_213 0 rfl rfl ?_
    refine x_callVi (pc := 214) (n := 0) K (c_X0_conflicts l D cI cJ cZ cA V land there near worn trial fits ways _ h) rfl rfl gL_tints_X0_conflicts rfl (by decide +kernel) ⟨Nat.le_of_ble_eq_true rfl, Nat.le_of_ble_eq_true rfl⟩ rfl (av := []) (b := V 0) (ci := 0) (q0 := 0) rfl rfl rfl (Nat.le_of_ble_eq_true rfl) [0, 1, 2, 3, 4, 5, 6] [7, 8, 9, 10, 11, 12, 13, 14, 15, 16, 17, 18] (wr := (wJ cI cA (V 7) (fun k => V (k + 8)) joined ++ [(a_nb, .inl (cI, 10, .inl nb))])) rfl rfl rfl rfl (by decide) dL_tints_214 ⟨Nat.le_of_ble_eq_true rfl, Nat.le_of_ble_eq_true rfl⟩ (fun r24 u9 h => ?_)
    refine x_wsub (ws' := ((wX0J cI cJ cZ cA V land there near worn trial fits ways joined) ++ [(a_nb, .inl (cI, 10, .inl nb))])) [12, 13, 14, 15, 16, 17, 18, 0, 1, 2, 3, 4, 5, 6, 7, 8, 9, 10, 11] rfl rfl ?_
    refine x_iload_n (pc := 217) K dL_tints_217 1 rfl rfl ?_
    refine x_icmp_ne (pc := 218) K dL_tints_218 (tgt := 280) (by decide) (fun c9 => ?_) (fun c9 => ?_)
    · have h := h.1 c9
      refine x_keep [false, false, false] rfl ?_
      refine x_iconst (v := (0)) (pc := 280) K dL_tints_280 (by decide) ?_
      refine x_widen (k := 5) (n := 30) (Nat.le_of_ble_eq_true rfl) (Nat.le_of_ble_eq_true rfl) ?_
      exact hX (0 : Int32) worn _ _ h.2 h.1 dL_tints_281
    · have h := h.2 c9
      refine x_aload_n (pc := 221) K dL_tints_221 0 rfl rfl ?_
      refine x_callVz (pc := 222) (n := 0) K (c_X0_isTinted l D cI cJ cZ cA V land there near worn trial fits ways _ h) rfl rfl gL_tints_X0_isTinted rfl (by decide +kernel) ⟨Nat.le_of_ble_eq_true rfl, Nat.le_of_ble_eq_true rfl⟩ rfl (av := []) (b := V 0) (ci := 0) (q0 := 0) rfl rfl rfl (Nat.le_of_ble_eq_true rfl) [0, 1, 2, 3, 4, 5, 6] [7, 8, 9, 10, 11, 12, 13, 14, 15, 16, 17, 18] (wr := (wJ cI cA (V 7) (fun k => V (k + 8)) joined ++ [(a_nb, .inl (cI, 10, .inl nb))])) rfl rfl rfl rfl (by decide) dL_tints_222 ⟨Nat.le_of_ble_eq_true rfl, Nat.le_of_ble_eq_true rfl⟩ (fun r25 u9 h => ?_)
      refine x_wsub (ws' := ((wX0J cI cJ cZ cA V land there near worn trial fits ways joined) ++ [(a_nb, .inl (cI, 10, .inl nb))])) [12, 13, 14, 15, 16, 17, 18, 0, 1, 2, 3, 4, 5, 6, 7, 8, 9, 10, 11] rfl rfl ?_
      refine x_iload_n (pc := 225) K dL_tints_225 2 rfl rfl ?_
      obtain ⟨J26, hJ26, h⟩ := xj1_o h
      have kJ26 : ∀ (v27 : Int32), J26 v27 → xw X 0 0 238 [(0, .ref (V 0))] [.int v27, .int r25] ((wX0J cI cJ cZ cA V land there near worn trial fits ways joined) ++ [(a_nb, .inl (cI, 10, .inl nb))]) := by
        intro v27 hj
        have h := hJ26 v27 hj
        refine x_icmp_ne (pc := 238) K dL_tints_238 (tgt := 280) (by decide) (fun c9 => ?_) (fun c9 => ?_)
        · have h := h.1 c9
          refine x_keep [false] rfl ?_
          refine x_iconst (v := (0)) (pc := 280) K dL_tints_280 (by decide) ?_
          refine x_widen (k := 5) (n := 30) (Nat.le_of_ble_eq_true rfl) (Nat.le_of_ble_eq_true rfl) ?_
          exact hX (0 : Int32) worn _ _ h.2 h.1 dL_tints_281
        · have h := h.2 c9
          refine x_aload_n (pc := 241) K dL_tints_241 0 rfl rfl ?_
          refine x_bipush (v := (10)) (pc := 242) K dL_tints_242 (by decide) ?_
          refine x_bipush (v := (11)) (pc := 244) K dL_tints_244 (by decide) ?_
          refine x_hcallSi (pc := 246) (n := 3) K hE hN (by decide) (c_L_tint l D cI cJ cZ cA hst V (10 : Int32) (11 : Int32) land there near worn trial fits ways joined _ h) rfl rfl gL_tints_L_tint rfl (by decide +kernel) ⟨Nat.le_of_ble_eq_true rfl, Nat.le_of_ble_eq_true rfl⟩ rfl (av := [.ref (V 0), .int (10 : Int32), .int (11 : Int32)]) rfl (Nat.le_of_ble_eq_true rfl) [0, 1, 2, 3, 4, 5, 6, 7, 8, 9, 10, 11, 12, 13, 14, 15, 16, 17] [18] (wr := [(a_nb, .inl (cI, 10, .inl nb))]) rfl rfl rfl rfl (by decide) dL_tints_246 ⟨Nat.le_of_ble_eq_true rfl, Nat.le_of_ble_eq_true rfl⟩ (fun r29 worn_28 h => ?_)
          refine x_wsub (ws' := ((wX0J cI cJ cZ cA V land there near worn_28 trial fits ways joined) ++ [(a_nb, .inl (cI, 10, .inl nb))])) [1, 2, 3, 4, 5, 6, 7, 8, 9, 10, 11, 12, 13, 14, 15, 16, 17, 18, 0] rfl rfl ?_
          refine x_ldc (pc := 249) (v := (-1000001)) K kL_tints_0 dL_tints_249 ?_
          refine x_icmp_ne (pc := 251) K dL_tints_251 (tgt := 280) (by decide) (fun c9 => ?_) (fun c9 => ?_)
          · have h := h.1 c9
            refine x_keep [false] rfl ?_
            refine x_iconst (v := (0)) (pc := 280) K dL_tints_280 (by decide) ?_
            refine x_widen (k := 5) (n := 30) (Nat.le_of_ble_eq_true rfl) (Nat.le_of_ble_eq_true rfl) ?_
            exact hX (0 : Int32) worn_28 _ _ h.2 h.1 dL_tints_281
          · have h := h.2 c9
            refine x_aload_n (pc := 254) K dL_tints_254 0 rfl rfl ?_
            refine x_iconst (v := (0)) (pc := 255) K dL_tints_255 (by decide) ?_
            refine x_bipush (v := (11)) (pc := 256) K dL_tints_256 (by decide) ?_
            refine x_hcallSi (pc := 258) (n := 3) K hE hN (by decide) (c_L_tint l D cI cJ cZ cA hst V (0 : Int32) (11 : Int32) land there near worn_28 trial fits ways joined _ h) rfl rfl gL_tints_L_tint rfl (by decide +kernel) ⟨Nat.le_of_ble_eq_true rfl, Nat.le_of_ble_eq_true rfl⟩ rfl (av := [.ref (V 0), .int (0 : Int32), .int (11 : Int32)]) rfl (Nat.le_of_ble_eq_true rfl) [0, 1, 2, 3, 4, 5, 6, 7, 8, 9, 10, 11, 12, 13, 14, 15, 16, 17] [18] (wr := [(a_nb, .inl (cI, 10, .inl nb))]) rfl rfl rfl rfl (by decide) dL_tints_258 ⟨Nat.le_of_ble_eq_true rfl, Nat.le_of_ble_eq_true rfl⟩ (fun r31 worn_30 h => ?_)
            refine x_wsub (ws' := ((wX0J cI cJ cZ cA V land there near worn_30 trial fits ways joined) ++ [(a_nb, .inl (cI, 10, .inl nb))])) [1, 2, 3, 4, 5, 6, 7, 8, 9, 10, 11, 12, 13, 14, 15, 16, 17, 18, 0] rfl rfl ?_
            refine x_ldc (pc := 261) (v := (-1000002)) K kL_tints_1 dL_tints_261 ?_
            refine x_icmp_ne (pc := 263) K dL_tints_263 (tgt := 280) (by decide) (fun c9 => ?_) (fun c9 => ?_)
            · have h := h.1 c9
              refine x_keep [false] rfl ?_
              refine x_iconst (v := (0)) (pc := 280) K dL_tints_280 (by decide) ?_
              refine x_widen (k := 5) (n := 30) (Nat.le_of_ble_eq_true rfl) (Nat.le_of_ble_eq_true rfl) ?_
              exact hX (0 : Int32) worn_30 _ _ h.2 h.1 dL_tints_281
            · have h := h.2 c9
              refine x_aload_n (pc := 266) K dL_tints_266 0 rfl rfl ?_
              refine x_iconst (v := (-1)) (pc := 267) K dL_tints_267 (by decide) ?_
              refine x_hcallSi (pc := 268) (n := 2) K hE hN (by decide) (c_L_leastFree l D cI cJ cZ cA hst V (-1 : Int32) land there near worn_30 trial fits ways joined _ h) rfl rfl gL_tints_L_leastFree rfl (by decide +kernel) ⟨Nat.le_of_ble_eq_true rfl, Nat.le_of_ble_eq_true rfl⟩ rfl (av := [.ref (V 0), .int (-1 : Int32)]) rfl (Nat.le_of_ble_eq_true rfl) [0, 1, 2, 3, 4, 5, 6, 7, 8, 9, 10, 11, 12, 13, 14, 15, 16, 17] [18] (wr := [(a_nb, .inl (cI, 10, .inl nb))]) rfl rfl rfl rfl (by decide) dL_tints_268 ⟨Nat.le_of_ble_eq_true rfl, Nat.le_of_ble_eq_true rfl⟩ (fun r32 u9 h => ?_)
              refine x_wsub (ws' := ((wX0J cI cJ cZ cA V land there near worn_30 trial fits ways joined) ++ [(a_nb, .inl (cI, 10, .inl nb))])) [1, 2, 3, 4, 5, 6, 7, 8, 9, 10, 11, 12, 13, 14, 15, 16, 17, 18, 0] rfl rfl ?_
              refine x_ldc (pc := 271) (v := (-1000001)) K kL_tints_0 dL_tints_271 ?_
              refine x_icmp_ne (pc := 273) K dL_tints_273 (tgt := 280) (by decide) (fun c9 => ?_) (fun c9 => ?_)
              · have h := h.1 c9
                refine x_keep [false] rfl ?_
                refine x_iconst (v := (0)) (pc := 280) K dL_tints_280 (by decide) ?_
                exact hX (0 : Int32) worn_30 _ _ h.2 h.1 dL_tints_281
              · have h := h.2 c9
                refine x_keep [false] rfl ?_
                refine x_iconst (v := (1)) (pc := 276) K dL_tints_276 (by decide) ?_
                refine x_goto (pc := 277) K dL_tints_277 (tgt := 281) (by decide) ?_
                exact hX (1 : Int32) worn_30 _ _ h.2 h.1 dL_tints_281
      obtain ⟨J33, hJ33, h⟩ := xj0_o h
      have kJ33 : J33 → xw X 0 0 237 [(0, .ref (V 0))] [.int r25] ((wX0J cI cJ cZ cA V land there near worn trial fits ways joined) ++ [(a_nb, .inl (cI, 10, .inl nb))]) := by
        intro  hj
        have h := hJ33  hj
        refine x_iconst (v := (0)) (pc := 237) K dL_tints_237 (by decide) ?_
        exact kJ26 (0 : Int32) h
      refine x_if_eq (pc := 226) K dL_tints_226 (tgt := 237) (by decide) (fun c9 => ?_) (fun c9 => ?_)
      · have h := h.1 c9
        refine x_keep [true, false, false] rfl ?_
        exact kJ33  h
      · have h := h.2 c9
        refine x_keep [true, true, false] rfl ?_
        refine x_iload_n (pc := 229) K dL_tints_229 1 rfl rfl ?_
        refine x_if_ne (pc := 230) K dL_tints_230 (tgt := 237) (by decide) (fun c9 => ?_) (fun c9 => ?_)
        · have h := h.1 c9
          refine x_keep [true, false] rfl ?_
          exact kJ33  h
        · have h := h.2 c9
          refine x_keep [true, false] rfl ?_
          refine x_iconst (v := (1)) (pc := 233) K dL_tints_233 (by decide) ?_
          refine x_goto (pc := 234) K dL_tints_234 (tgt := 238) (by decide) ?_
          exact kJ26 (1 : Int32) h
  · refine x_iconst (v := (0)) (pc := 205) K dL_tints_205 (by decide) ?_
    refine x_widen (k := 5) (n := 30) (Nat.le_of_ble_eq_true rfl) (Nat.le_of_ble_eq_true rfl) ?_
    exact hX (0 : Int32) worn _ _ h.2 h.1 dL_tints_206
abbrev rm_L_chains : Room := { frames := 12, cells := 15, slots := 90, locals := 280 }
theorem kL_chains_0 : Cond.constant RL 63 (-1000003) ∈ wsL_chains := by decide +kernel
theorem kL_chains_1 : Cond.constant RL 21 (-1000002) ∈ wsL_chains := by decide +kernel
theorem kL_chains_2 : Cond.constant RL 18 (-1000001) ∈ wsL_chains := by decide +kernel
def q_L_chains (p1 : Int32) (p2 : Int32) (land : Nat → Int64) (there : Int32) (near : Nat → Int32) (worn : Nat → Int32) (P : Int32 → (Nat → Int32) → Prop) : Prop := q0_L_tintOf p1 worn (fun (r1 : Int32) => q_X0_isTinted there near worn (fun (r2 : Int32) => q_X0_conflicts near worn (fun (r3 : Int32) => q_L_sum worn (fun (r4 : Int64) => q_L_chain p1 p2 there near worn (fun (r5 : Int32) => q0_L_area p1 land (fun (r6 : Int32) => xj0 (((¬ r5 = (-1000003 : Int32) → (xbool (0 : Int32) ∧ P (0 : Int32) worn)) ∧ (r5 = (-1000003 : Int32) → q_L_exchange p1 p2 there near worn (fun (r9 : Int32) (worn_8 : Nat → Int32) => ((¬ r9 = (-1000003 : Int32) → (xbool (0 : Int32) ∧ P (0 : Int32) worn_8)) ∧ (r9 = (-1000003 : Int32) → q_L_chain p1 (0 : Int32) there near worn_8 (fun (r10 : Int32) => ((¬ r10 = (-1000002 : Int32) → (xbool (0 : Int32) ∧ P (0 : Int32) worn_8)) ∧ (r10 = (-1000002 : Int32) → q_L_chain (10 : Int32) (0 : Int32) there near worn_8 (fun (r11 : Int32) => ((¬ r11 = (-1000001 : Int32) → (xbool (0 : Int32) ∧ P (0 : Int32) worn_8)) ∧ (r11 = (-1000001 : Int32) → q_L_sum worn_8 (fun (r12 : Int64) => ((¬ (lg_cmp r12 r4) = (0 : Int32) → (xbool (0 : Int32) ∧ P (0 : Int32) worn_8)) ∧ ((lg_cmp r12 r4) = (0 : Int32) → (xbool (1 : Int32) ∧ P (1 : Int32) worn_8)))))))))))))))) (fun (J7 : Prop) => ((r6 = (0 : Int32) → J7) ∧ (¬ r6 = (0 : Int32) → ((¬ r1 = (0 : Int32) → xj2 (fun (v14 : Int32) (v15 : Nat → Int32) => ((v14 = (0 : Int32) → (xbool (0 : Int32) ∧ P (0 : Int32) v15)) ∧ (¬ v14 = (0 : Int32) → q_L_exchange p1 r1 there near v15 (fun (r17 : Int32) (worn_16 : Nat → Int32) => xj1 (fun (v19 : Int32) => ((¬ r17 = v19 → (xbool (0 : Int32) ∧ P (0 : Int32) worn_16)) ∧ (r17 = v19 → q_L_sum worn_16 (fun (r20 : Int64) => ((¬ (lg_cmp r20 r4) = (0 : Int32) → (xbool (0 : Int32) ∧ P (0 : Int32) worn_16)) ∧ ((lg_cmp r20 r4) = (0 : Int32) → q_L_chain p1 (11 : Int32) there near worn_16 (fun (r21 : Int32) => ((¬ r21 = (-1000002 : Int32) → (xbool (0 : Int32) ∧ P (0 : Int32) worn_16)) ∧ (r21 = (-1000002 : Int32) → (xbool (1 : Int32) ∧ P (1 : Int32) worn_16)))))))))) (fun (J18 : Int32 → Prop) => ((¬ r1 = p2 → J18 r5) ∧ (r1 = p2 → J18 (0 : Int32)))))))) (fun (J13 : Int32 → (Nat → Int32) → Prop) => xj1 (fun (v23 : Nat → Int32) => J13 (0 : Int32) v23) (fun (J22 : (Nat → Int32) → Prop) => ((r5 ≤ (0 : Int32) → J22 worn) ∧ (¬ r5 ≤ (0 : Int32) → q_X0_countries there (fun (r24 : Int32) => ((r24 < r5 → J22 worn) ∧ (¬ r24 < r5 → q_L_exchange p1 p2 there near worn (fun (r26 : Int32) (worn_25 : Nat → Int32) => xj1 (fun (v28 : Int32) => ((¬ r26 = v28 → J22 worn_25) ∧ (r26 = v28 → q0_L_tintOf p1 worn_25 (fun (r29 : Int32) => ((¬ r29 = p2 → J22 worn_25) ∧ (r29 = p2 → q_X0_conflicts near worn_25 (fun (r30 : Int32) => ((¬ r30 = r3 → J22 worn_25) ∧ (r30 = r3 → q_X0_isTinted there near worn_25 (fun (r31 : Int32) => ((¬ r31 = r2 → J22 worn_25) ∧ (r31 = r2 → q_L_chain p1 r1 there near worn_25 (fun (r32 : Int32) => ((¬ r32 = r5 → J22 worn_25) ∧ (r32 = r5 → J13 (1 : Int32) worn_25))))))))))))))) (fun (J27 : Int32 → Prop) => ((¬ r1 = p2 → J27 r5) ∧ (r1 = p2 → J27 (0 : Int32))))))))))))) ∧ (r1 = (0 : Int32) → J7)))))))))))
set_option maxHeartbeats 4000000 in
set_option maxRecDepth 100000 in
theorem c_L_chains (l : Launch) (D : va_G) (cI cJ cZ cA : ClassId) (hst : l.stackTraces = false) (V : Nat → Nat) (p1 : Int32) (p2 : Int32) (land : Nat → Int64) (there : Int32) (near : Nat → Int32) (worn : Nat → Int32) (trial : Nat → Int32) (fits : Nat → Int32) (ways : Nat → Int64) (joined : Nat → Nat → Int32) (P : Int32 → (Nat → Int32) → Prop) (h : q_L_chains p1 p2 land there near worn P) : xHz l yL_chains wsL_chains rm_L_chains D vwCl (xtys cI cJ cZ cA) (wX0J cI cJ cZ cA V land there near worn trial fits ways joined) [.ref (V 0), .int p1, .int p2] RX0 [(183, "there is no such country"), (187, "there is no such tint"), (193, "the country is not there or has no tint")] (σ := (Nat → Int32)) (fun u => (wX0J cI cJ cZ cA V land there near u trial fits ways joined)) (fun r u => P r u) 15 90 := by
  refine xHz_of (cc := cL_chains) (maxL := 10) (by decide) rfl (Nat.le_of_ble_eq_true rfl) ?_
  intro X K hE hN hX
  have K : xk X l rm_L_chains D vwCl (xtys cI cJ cZ cA) cL_chains RL wsL_chains 10 := K
  unfold q_L_chains at h
  refine x_aload_n (pc := 0) K dL_chains_0 0 rfl rfl ?_
  refine x_iload_n (pc := 1) K dL_chains_1 1 rfl rfl ?_
  refine x_wcallSi (pc := 2) (n := 2) K (c0_L_tintOf l D cI cJ cZ cA V p1 land there near worn trial fits ways joined _ h) rfl rfl gL_chains_L_tintOf rfl (by decide +kernel) ⟨Nat.le_of_ble_eq_true rfl, Nat.le_of_ble_eq_true rfl⟩ rfl (av := [.ref (V 0), .int p1]) rfl (Nat.le_of_ble_eq_true rfl) [0, 1, 2, 3, 4, 5, 6, 7, 8, 9, 10, 11, 12, 13, 14, 15, 16, 17] [] (wr := []) rfl rfl rfl rfl (by decide) dL_chains_2 ⟨Nat.le_of_ble_eq_true rfl, Nat.le_of_ble_eq_true rfl⟩ (fun r1 u9 h => ?_)
  refine x_wsub (ws' := (wX0J cI cJ cZ cA V land there near worn trial fits ways joined)) [0, 1, 2, 3, 4, 5, 6, 7, 8, 9, 10, 11, 12, 13, 14, 15, 16, 17] rfl rfl ?_
  refine x_istore_n (lv' := [(0, .ref (V 0)), (1, .int p1), (2, .int p2), (3, .int r1)]) (pc := 5) K dL_chains_5 rfl (by decide) rfl ?_
  refine x_aload_n (pc := 6) K dL_chains_6 0 rfl rfl ?_
  refine x_callVz (pc := 7) (n := 0) K (c_X0_isTinted l D cI cJ cZ cA V land there near worn trial fits ways _ h) rfl rfl gL_chains_X0_isTinted rfl (by decide +kernel) ⟨Nat.le_of_ble_eq_true rfl, Nat.le_of_ble_eq_true rfl⟩ rfl (av := []) (b := V 0) (ci := 0) (q0 := 0) rfl rfl rfl (Nat.le_of_ble_eq_true rfl) [0, 1, 2, 3, 4, 5, 6] [7, 8, 9, 10, 11, 12, 13, 14, 15, 16, 17] (wr := (wJ cI cA (V 7) (fun k => V (k + 8)) joined)) rfl rfl rfl rfl (by decide) dL_chains_7 ⟨Nat.le_of_ble_eq_true rfl, Nat.le_of_ble_eq_true rfl⟩ (fun r2 u9 h => ?_)
  refine x_wsub (ws' := (wX0J cI cJ cZ cA V land there near worn trial fits ways joined)) [11, 12, 13, 14, 15, 16, 17, 0, 1, 2, 3, 4, 5, 6, 7, 8, 9, 10] rfl rfl ?_
  refine x_istore (lv' := [(0, .ref (V 0)), (1, .int p1), (2, .int p2), (3, .int r1), (4, .int r2)]) (pc := 10) K dL_chains_10 (by decide) rfl ?_
  refine x_aload_n (pc := 12) K dL_chains_12 0 rfl rfl ?_
  refine x_callVi (pc := 13) (n := 0) K (c_X0_conflicts l D cI cJ cZ cA V land there near worn trial fits ways _ h) rfl rfl gL_chains_X0_conflicts rfl (by decide +kernel) ⟨Nat.le_of_ble_eq_true rfl, Nat.le_of_ble_eq_true rfl⟩ rfl (av := []) (b := V 0) (ci := 0) (q0 := 0) rfl rfl rfl (Nat.le_of_ble_eq_true rfl) [0, 1, 2, 3, 4, 5, 6] [7, 8, 9, 10, 11, 12, 13, 14, 15, 16, 17] (wr := (wJ cI cA (V 7) (fun k => V (k + 8)) joined)) rfl rfl rfl rfl (by decide) dL_chains_13 ⟨Nat.le_of_ble_eq_true rfl, Nat.le_of_ble_eq_true rfl⟩ (fun r3 u9 h => ?_)
  refine x_wsub (ws' := (wX0J cI cJ cZ cA V land there near worn trial fits ways joined)) [11, 12, 13, 14, 15, 16, 17, 0, 1, 2, 3, 4, 5, 6, 7, 8, 9, 10] rfl rfl ?_
  refine x_istore (lv' := [(0, .ref (V 0)), (1, .int p1), (2, .int p2), (3, .int r1), (4, .int r2), (5, .int r3)]) (pc := 16) K dL_chains_16 (by decide) rfl ?_
  refine x_aload_n (pc := 18) K dL_chains_18 0 rfl rfl ?_
  refine x_callSl (pc := 19) (n := 1) K (c_L_sum l D cI cJ cZ cA V land there near worn trial fits ways joined _ h) rfl rfl gL_chains_L_sum rfl (by decide +kernel) ⟨Nat.le_of_ble_eq_true rfl, Nat.le_of_ble_eq_true rfl⟩ rfl (av := [.ref (V 0)]) rfl (Nat.le_of_ble_eq_true rfl) [0, 1, 2, 3, 4, 5, 6, 7, 8, 9, 10, 11, 12, 13, 14, 15, 16, 17] [] (wr := []) rfl rfl rfl rfl (by decide) dL_chains_19 ⟨Nat.le_of_ble_eq_true rfl, Nat.le_of_ble_eq_true rfl⟩ (fun r4 u9 h => ?_)
  refine x_wsub (ws' := (wX0J cI cJ cZ cA V land there near worn trial fits ways joined)) [0, 1, 2, 3, 4, 5, 6, 7, 8, 9, 10, 11, 12, 13, 14, 15, 16, 17] rfl rfl ?_
  refine x_lstore (lv' := [(0, .ref (V 0)), (1, .int p1), (2, .int p2), (3, .int r1), (4, .int r2), (5, .int r3), (6, .long r4)]) (pc := 22) K dL_chains_22 (by decide) rfl ?_
  refine x_aload_n (pc := 24) K dL_chains_24 0 rfl rfl ?_
  refine x_iload_n (pc := 25) K dL_chains_25 1 rfl rfl ?_
  refine x_iload_n (pc := 26) K dL_chains_26 2 rfl rfl ?_
  refine x_hcallSi (pc := 27) (n := 3) K hE hN (by decide) (c_L_chain l D cI cJ cZ cA hst V p1 p2 land there near worn trial fits ways joined _ h) rfl rfl gL_chains_L_chain rfl (by decide +kernel) ⟨Nat.le_of_ble_eq_true rfl, Nat.le_of_ble_eq_true rfl⟩ rfl (av := [.ref (V 0), .int p1, .int p2]) rfl (Nat.le_of_ble_eq_true rfl) [0, 1, 2, 3, 4, 5, 6, 7, 8, 9, 10, 11, 12, 13, 14, 15, 16, 17] [] (wr := []) rfl rfl rfl rfl (by decide) dL_chains_27 ⟨Nat.le_of_ble_eq_true rfl, Nat.le_of_ble_eq_true rfl⟩ (fun r5 u9 h => ?_)
  refine x_wsub (ws' := (wX0J cI cJ cZ cA V land there near worn trial fits ways joined)) [0, 1, 2, 3, 4, 5, 6, 7, 8, 9, 10, 11, 12, 13, 14, 15, 16, 17] rfl rfl ?_
  refine x_istore (lv' := [(0, .ref (V 0)), (1, .int p1), (2, .int p2), (3, .int r1), (4, .int r2), (5, .int r3), (6, .long r4), (8, .int r5)]) (pc := 30) K dL_chains_30 (by decide) rfl ?_
  refine x_aload_n (pc := 32) K dL_chains_32 0 rfl rfl ?_
  refine x_iload_n (pc := 33) K dL_chains_33 1 rfl rfl ?_
  refine x_wcallSi (pc := 34) (n := 2) K (c0_L_area l D cI cJ cZ cA V p1 land there near worn trial fits ways joined _ h) rfl rfl gL_chains_L_area rfl (by decide +kernel) ⟨Nat.le_of_ble_eq_true rfl, Nat.le_of_ble_eq_true rfl⟩ rfl (av := [.ref (V 0), .int p1]) rfl (Nat.le_of_ble_eq_true rfl) [0, 1, 2, 3, 4, 5, 6, 7, 8, 9, 10, 11, 12, 13, 14, 15, 16, 17] [] (wr := []) rfl rfl rfl rfl (by decide) dL_chains_34 ⟨Nat.le_of_ble_eq_true rfl, Nat.le_of_ble_eq_true rfl⟩ (fun r6 u9 h => ?_)
  refine x_wsub (ws' := (wX0J cI cJ cZ cA V land there near worn trial fits ways joined)) [0, 1, 2, 3, 4, 5, 6, 7, 8, 9, 10, 11, 12, 13, 14, 15, 16, 17] rfl rfl ?_
  obtain ⟨J7, hJ7, h⟩ := xj0_o h
  have kJ7 : J7 → xw X 3 18 44 [(0, .ref (V 0)), (1, .int p1), (2, .int p2), (6, .long r4), (8, .int r5)] [] (wX0J cI cJ cZ cA V land there near worn trial fits ways joined) := by
    intro  hj
    have h := hJ7  hj
    refine x_iload (pc := 44) K dL_chains_44 4 rfl ?_
    refine x_ldc (pc := 46) (v := (-1000003)) K kL_chains_0 dL_chains_46 ?_
    refine x_icmp_ne (pc := 48) K dL_chains_48 (tgt := 99) (by decide) (fun c9 => ?_) (fun c9 => ?_)
    · have h := h.1 c9
      refine x_keep [false, false, false, false, false] rfl ?_
      refine x_iconst (v := (0)) (pc := 99) K dL_chains_99 (by decide) ?_
      refine x_widen (k := 15) (n := 90) (Nat.le_of_ble_eq_true rfl) (Nat.le_of_ble_eq_true rfl) ?_
      exact hX (0 : Int32) worn _ _ h.2 h.1 dL_chains_100
    · have h := h.2 c9
      refine x_keep [true, true, true, true, false] rfl ?_
      refine x_aload_n (pc := 51) K dL_chains_51 0 rfl rfl ?_
      refine x_iload_n (pc := 52) K dL_chains_52 1 rfl rfl ?_
      refine x_iload_n (pc := 53) K dL_chains_53 2 rfl rfl ?_
      refine x_hcallSi (pc := 54) (n := 3) K hE hN (by decide) (c_L_exchange l D cI cJ cZ cA hst V p1 p2 land there near worn trial fits ways joined _ h) rfl rfl gL_chains_L_exchange rfl (by decide +kernel) ⟨Nat.le_of_ble_eq_true rfl, Nat.le_of_ble_eq_true rfl⟩ rfl (av := [.ref (V 0), .int p1, .int p2]) rfl (Nat.le_of_ble_eq_true rfl) [0, 1, 2, 3, 4, 5, 6, 7, 8, 9, 10, 11, 12, 13, 14, 15, 16, 17] [] (wr := []) rfl rfl rfl rfl (by decide) dL_chains_54 ⟨Nat.le_of_ble_eq_true rfl, Nat.le_of_ble_eq_true rfl⟩ (fun r9 worn_8 h => ?_)
      refine x_wsub (ws' := (wX0J cI cJ cZ cA V land there near worn_8 trial fits ways joined)) [0, 1, 2, 3, 4, 5, 6, 7, 8, 9, 10, 11, 12, 13, 14, 15, 16, 17] rfl rfl ?_
      refine x_ldc (pc := 57) (v := (-1000003)) K kL_chains_0 dL_chains_57 ?_
      refine x_icmp_ne (pc := 59) K dL_chains_59 (tgt := 99) (by decide) (fun c9 => ?_) (fun c9 => ?_)
      · have h := h.1 c9
        refine x_keep [false, false, false, false] rfl ?_
        refine x_iconst (v := (0)) (pc := 99) K dL_chains_99 (by decide) ?_
        refine x_widen (k := 15) (n := 90) (Nat.le_of_ble_eq_true rfl) (Nat.le_of_ble_eq_true rfl) ?_
        exact hX (0 : Int32) worn_8 _ _ h.2 h.1 dL_chains_100
      · have h := h.2 c9
        refine x_keep [true, true, false, true] rfl ?_
        refine x_aload_n (pc := 62) K dL_chains_62 0 rfl rfl ?_
        refine x_iload_n (pc := 63) K dL_chains_63 1 rfl rfl ?_
        refine x_iconst (v := (0)) (pc := 64) K dL_chains_64 (by decide) ?_
        refine x_hcallSi (pc := 65) (n := 3) K hE hN (by decide) (c_L_chain l D cI cJ cZ cA hst V p1 (0 : Int32) land there near worn_8 trial fits ways joined _ h) rfl rfl gL_chains_L_chain rfl (by decide +kernel) ⟨Nat.le_of_ble_eq_true rfl, Nat.le_of_ble_eq_true rfl⟩ rfl (av := [.ref (V 0), .int p1, .int (0 : Int32)]) rfl (Nat.le_of_ble_eq_true rfl) [0, 1, 2, 3, 4, 5, 6, 7, 8, 9, 10, 11, 12, 13, 14, 15, 16, 17] [] (wr := []) rfl rfl rfl rfl (by decide) dL_chains_65 ⟨Nat.le_of_ble_eq_true rfl, Nat.le_of_ble_eq_true rfl⟩ (fun r10 u9 h => ?_)
        refine x_wsub (ws' := (wX0J cI cJ cZ cA V land there near worn_8 trial fits ways joined)) [0, 1, 2, 3, 4, 5, 6, 7, 8, 9, 10, 11, 12, 13, 14, 15, 16, 17] rfl rfl ?_
        refine x_ldc (pc := 68) (v := (-1000002)) K kL_chains_1 dL_chains_68 ?_
        refine x_icmp_ne (pc := 70) K dL_chains_70 (tgt := 99) (by decide) (fun c9 => ?_) (fun c9 => ?_)
        · have h := h.1 c9
          refine x_keep [false, false, false] rfl ?_
          refine x_iconst (v := (0)) (pc := 99) K dL_chains_99 (by decide) ?_
          refine x_widen (k := 15) (n := 90) (Nat.le_of_ble_eq_true rfl) (Nat.le_of_ble_eq_true rfl) ?_
          exact hX (0 : Int32) worn_8 _ _ h.2 h.1 dL_chains_100
        · have h := h.2 c9
          refine x_keep [true, false, true] rfl ?_
          refine x_aload_n (pc := 73) K dL_chains_73 0 rfl rfl ?_
          refine x_bipush (v := (10)) (pc := 74) K dL_chains_74 (by decide) ?_
          refine x_iconst (v := (0)) (pc := 76) K dL_chains_76 (by decide) ?_
          refine x_hcallSi (pc := 77) (n := 3) K hE hN (by decide) (c_L_chain l D cI cJ cZ cA hst V (10 : Int32) (0 : Int32) land there near worn_8 trial fits ways joined _ h) rfl rfl gL_chains_L_chain rfl (by decide +kernel) ⟨Nat.le_of_ble_eq_true rfl, Nat.le_of_ble_eq_true rfl⟩ rfl (av := [.ref (V 0), .int (10 : Int32), .int (0 : Int32)]) rfl (Nat.le_of_ble_eq_true rfl) [0, 1, 2, 3, 4, 5, 6, 7, 8, 9, 10, 11, 12, 13, 14, 15, 16, 17] [] (wr := []) rfl rfl rfl rfl (by decide) dL_chains_77 ⟨Nat.le_of_ble_eq_true rfl, Nat.le_of_ble_eq_true rfl⟩ (fun r11 u9 h => ?_)
          refine x_wsub (ws' := (wX0J cI cJ cZ cA V land there near worn_8 trial fits ways joined)) [0, 1, 2, 3, 4, 5, 6, 7, 8, 9, 10, 11, 12, 13, 14, 15, 16, 17] rfl rfl ?_
          refine x_ldc (pc := 80) (v := (-1000001)) K kL_chains_2 dL_chains_80 ?_
          refine x_icmp_ne (pc := 82) K dL_chains_82 (tgt := 99) (by decide) (fun c9 => ?_) (fun c9 => ?_)
          · have h := h.1 c9
            refine x_keep [false, false] rfl ?_
            refine x_iconst (v := (0)) (pc := 99) K dL_chains_99 (by decide) ?_
            refine x_widen (k := 15) (n := 90) (Nat.le_of_ble_eq_true rfl) (Nat.le_of_ble_eq_true rfl) ?_
            exact hX (0 : Int32) worn_8 _ _ h.2 h.1 dL_chains_100
          · have h := h.2 c9
            refine x_aload_n (pc := 85) K dL_chains_85 0 rfl rfl ?_
            refine x_callSl (pc := 86) (n := 1) K (c_L_sum l D cI cJ cZ cA V land there near worn_8 trial fits ways joined _ h) rfl rfl gL_chains_L_sum rfl (by decide +kernel) ⟨Nat.le_of_ble_eq_true rfl, Nat.le_of_ble_eq_true rfl⟩ rfl (av := [.ref (V 0)]) rfl (Nat.le_of_ble_eq_true rfl) [0, 1, 2, 3, 4, 5, 6, 7, 8, 9, 10, 11, 12, 13, 14, 15, 16, 17] [] (wr := []) rfl rfl rfl rfl (by decide) dL_chains_86 ⟨Nat.le_of_ble_eq_true rfl, Nat.le_of_ble_eq_true rfl⟩ (fun r12 u9 h => ?_)
            refine x_wsub (ws' := (wX0J cI cJ cZ cA V land there near worn_8 trial fits ways joined)) [0, 1, 2, 3, 4, 5, 6, 7, 8, 9, 10, 11, 12, 13, 14, 15, 16, 17] rfl rfl ?_
            refine x_lload (pc := 89) K dL_chains_89 1 rfl ?_
            refine x_lcmp (pc := 91) K dL_chains_91 ?_
            refine x_if_ne (pc := 92) K dL_chains_92 (tgt := 99) (by decide) (fun c9 => ?_) (fun c9 => ?_)
            · have h := h.1 c9
              refine x_keep [false, false] rfl ?_
              refine x_iconst (v := (0)) (pc := 99) K dL_chains_99 (by decide) ?_
              refine x_widen (k := 15) (n := 90) (Nat.le_of_ble_eq_true rfl) (Nat.le_of_ble_eq_true rfl) ?_
              exact hX (0 : Int32) worn_8 _ _ h.2 h.1 dL_chains_100
            · have h := h.2 c9
              refine x_keep [false, false] rfl ?_
              refine x_iconst (v := (1)) (pc := 95) K dL_chains_95 (by decide) ?_
              refine x_goto (pc := 96) K dL_chains_96 (tgt := 100) (by decide) ?_
              refine x_widen (k := 15) (n := 90) (Nat.le_of_ble_eq_true rfl) (Nat.le_of_ble_eq_true rfl) ?_
              exact hX (1 : Int32) worn_8 _ _ h.2 h.1 dL_chains_100
  refine x_if_eq (pc := 37) K dL_chains_37 (tgt := 44) (by decide) (fun c9 => ?_) (fun c9 => ?_)
  · have h := h.1 c9
    refine x_keep [true, true, true, false, false, false, true, true] rfl ?_
    exact kJ7  h
  · have h := h.2 c9
    refine x_iload_n (pc := 40) K dL_chains_40 3 rfl rfl ?_
    refine x_if_ne (pc := 41) K dL_chains_41 (tgt := 101) (by decide) (fun c9 => ?_) (fun c9 => ?_)
    · have h := h.1 c9
      refine x_iload (pc := 101) K dL_chains_101 7 rfl ?_
      obtain ⟨J13, hJ13, h⟩ := xj2_o h
      have kJ13 : ∀ (v14 : Int32) (v15 : Nat → Int32), J13 v14 v15 → xw X 9 54 178 [(0, .ref (V 0)), (1, .int p1), (2, .int p2), (3, .int r1), (6, .long r4), (8, .int r5)] [.int v14] (wX0J cI cJ cZ cA V land there near v15 trial fits ways joined) := by
        intro v14 v15 hj
        have h := hJ13 v14 v15 hj
        refine x_istore (lv' := [(0, .ref (V 0)), (1, .int p1), (2, .int p2), (3, .int r1), (6, .long r4), (8, .int r5), (9, .int v14)]) (pc := 178) K dL_chains_178 (by decide) rfl ?_
        refine x_iload (pc := 180) K dL_chains_180 6 rfl ?_
        refine x_if_eq (pc := 182) K dL_chains_182 (tgt := 231) (by decide) (fun c9 => ?_) (fun c9 => ?_)
        · have h := h.1 c9
          refine x_keep [false, false, false, false, false, false, false] rfl ?_
          refine x_iconst (v := (0)) (pc := 231) K dL_chains_231 (by decide) ?_
          refine x_widen (k := 15) (n := 90) (Nat.le_of_ble_eq_true rfl) (Nat.le_of_ble_eq_true rfl) ?_
          exact hX (0 : Int32) v15 _ _ h.2 h.1 dL_chains_232
        · have h := h.2 c9
          refine x_keep [true, true, true, true, true, true, false] rfl ?_
          refine x_aload_n (pc := 185) K dL_chains_185 0 rfl rfl ?_
          refine x_iload_n (pc := 186) K dL_chains_186 1 rfl rfl ?_
          refine x_iload_n (pc := 187) K dL_chains_187 3 rfl rfl ?_
          refine x_hcallSi (pc := 188) (n := 3) K hE hN (by decide) (c_L_exchange l D cI cJ cZ cA hst V p1 r1 land there near v15 trial fits ways joined _ h) rfl rfl gL_chains_L_exchange rfl (by decide +kernel) ⟨Nat.le_of_ble_eq_true rfl, Nat.le_of_ble_eq_true rfl⟩ rfl (av := [.ref (V 0), .int p1, .int r1]) rfl (Nat.le_of_ble_eq_true rfl) [0, 1, 2, 3, 4, 5, 6, 7, 8, 9, 10, 11, 12, 13, 14, 15, 16, 17] [] (wr := []) rfl rfl rfl rfl (by decide) dL_chains_188 ⟨Nat.le_of_ble_eq_true rfl, Nat.le_of_ble_eq_true rfl⟩ (fun r17 worn_16 h => ?_)
          refine x_wsub (ws' := (wX0J cI cJ cZ cA V land there near worn_16 trial fits ways joined)) [0, 1, 2, 3, 4, 5, 6, 7, 8, 9, 10, 11, 12, 13, 14, 15, 16, 17] rfl rfl ?_
          refine x_iload_n (pc := 191) K dL_chains_191 3 rfl rfl ?_
          refine x_iload_n (pc := 192) K dL_chains_192 2 rfl rfl ?_
          obtain ⟨J18, hJ18, h⟩ := xj1_o h
          have kJ18 : ∀ (v19 : Int32), J18 v19 → xw X 12 72 202 [(0, .ref (V 0)), (1, .int p1), (6, .long r4)] [.int v19, .int r17] (wX0J cI cJ cZ cA V land there near worn_16 trial fits ways joined) := by
            intro v19 hj
            have h := hJ18 v19 hj
            refine x_icmp_ne (pc := 202) K dL_chains_202 (tgt := 231) (by decide) (fun c9 => ?_) (fun c9 => ?_)
            · have h := h.1 c9
              refine x_keep [false, false, false] rfl ?_
              refine x_iconst (v := (0)) (pc := 231) K dL_chains_231 (by decide) ?_
              refine x_widen (k := 15) (n := 90) (Nat.le_of_ble_eq_true rfl) (Nat.le_of_ble_eq_true rfl) ?_
              exact hX (0 : Int32) worn_16 _ _ h.2 h.1 dL_chains_232
            · have h := h.2 c9
              refine x_aload_n (pc := 205) K dL_chains_205 0 rfl rfl ?_
              refine x_callSl (pc := 206) (n := 1) K (c_L_sum l D cI cJ cZ cA V land there near worn_16 trial fits ways joined _ h) rfl rfl gL_chains_L_sum rfl (by decide +kernel) ⟨Nat.le_of_ble_eq_true rfl, Nat.le_of_ble_eq_true rfl⟩ rfl (av := [.ref (V 0)]) rfl (Nat.le_of_ble_eq_true rfl) [0, 1, 2, 3, 4, 5, 6, 7, 8, 9, 10, 11, 12, 13, 14, 15, 16, 17] [] (wr := []) rfl rfl rfl rfl (by decide) dL_chains_206 ⟨Nat.le_of_ble_eq_true rfl, Nat.le_of_ble_eq_true rfl⟩ (fun r20 u9 h => ?_)
              refine x_wsub (ws' := (wX0J cI cJ cZ cA V land there near worn_16 trial fits ways joined)) [0, 1, 2, 3, 4, 5, 6, 7, 8, 9, 10, 11, 12, 13, 14, 15, 16, 17] rfl rfl ?_
              refine x_lload (pc := 209) K dL_chains_209 2 rfl ?_
              refine x_lcmp (pc := 211) K dL_chains_211 ?_
              refine x_if_ne (pc := 212) K dL_chains_212 (tgt := 231) (by decide) (fun c9 => ?_) (fun c9 => ?_)
              · have h := h.1 c9
                refine x_keep [false, false, false] rfl ?_
                refine x_iconst (v := (0)) (pc := 231) K dL_chains_231 (by decide) ?_
                refine x_widen (k := 15) (n := 90) (Nat.le_of_ble_eq_true rfl) (Nat.le_of_ble_eq_true rfl) ?_
                exact hX (0 : Int32) worn_16 _ _ h.2 h.1 dL_chains_232
              · have h := h.2 c9
                refine x_keep [true, true, false] rfl ?_
                refine x_aload_n (pc := 215) K dL_chains_215 0 rfl rfl ?_
                refine x_iload_n (pc := 216) K dL_chains_216 1 rfl rfl ?_
                refine x_bipush (v := (11)) (pc := 217) K dL_chains_217 (by decide) ?_
                refine x_hcallSi (pc := 219) (n := 3) K hE hN (by decide) (c_L_chain l D cI cJ cZ cA hst V p1 (11 : Int32) land there near worn_16 trial fits ways joined _ h) rfl rfl gL_chains_L_chain rfl (by decide +kernel) ⟨Nat.le_of_ble_eq_true rfl, Nat.le_of_ble_eq_true rfl⟩ rfl (av := [.ref (V 0), .int p1, .int (11 : Int32)]) rfl (Nat.le_of_ble_eq_true rfl) [0, 1, 2, 3, 4, 5, 6, 7, 8, 9, 10, 11, 12, 13, 14, 15, 16, 17] [] (wr := []) rfl rfl rfl rfl (by decide) dL_chains_219 ⟨Nat.le_of_ble_eq_true rfl, Nat.le_of_ble_eq_true rfl⟩ (fun r21 u9 h => ?_)
                refine x_wsub (ws' := (wX0J cI cJ cZ cA V land there near worn_16 trial fits ways joined)) [0, 1, 2, 3, 4, 5, 6, 7, 8, 9, 10, 11, 12, 13, 14, 15, 16, 17] rfl rfl ?_
                refine x_ldc (pc := 222) (v := (-1000002)) K kL_chains_1 dL_chains_222 ?_
                refine x_icmp_ne (pc := 224) K dL_chains_224 (tgt := 231) (by decide) (fun c9 => ?_) (fun c9 => ?_)
                · have h := h.1 c9
                  refine x_keep [false, false] rfl ?_
                  refine x_iconst (v := (0)) (pc := 231) K dL_chains_231 (by decide) ?_
                  exact hX (0 : Int32) worn_16 _ _ h.2 h.1 dL_chains_232
                · have h := h.2 c9
                  refine x_keep [false, false] rfl ?_
                  refine x_iconst (v := (1)) (pc := 227) K dL_chains_227 (by decide) ?_
                  refine x_goto (pc := 228) K dL_chains_228 (tgt := 232) (by decide) ?_
                  exact hX (1 : Int32) worn_16 _ _ h.2 h.1 dL_chains_232
          refine x_icmp_ne (pc := 193) K dL_chains_193 (tgt := 200) (by decide) (fun c9 => ?_) (fun c9 => ?_)
          · have h := h.1 c9
            refine x_keep [true, true, false, false, true, true] rfl ?_
            refine x_iload (pc := 200) K dL_chains_200 3 rfl ?_
            refine x_keep [true, true, true, false] rfl ?_
            exact kJ18 r5 h
          · have h := h.2 c9
            refine x_keep [true, true, false, false, true, false] rfl ?_
            refine x_iconst (v := (0)) (pc := 196) K dL_chains_196 (by decide) ?_
            refine x_goto (pc := 197) K dL_chains_197 (tgt := 202) (by decide) ?_
            exact kJ18 (0 : Int32) h
      obtain ⟨J22, hJ22, h⟩ := xj1_o h
      have kJ22 : ∀ (v23 : Nat → Int32), J22 v23 → xw X 9 54 177 [(0, .ref (V 0)), (1, .int p1), (2, .int p2), (3, .int r1), (6, .long r4), (8, .int r5)] [] (wX0J cI cJ cZ cA V land there near v23 trial fits ways joined) := by
        intro v23 hj
        have h := hJ22 v23 hj
        refine x_iconst (v := (0)) (pc := 177) K dL_chains_177 (by decide) ?_
        exact kJ13 (0 : Int32) v23 h
      refine x_if_le (pc := 103) K dL_chains_103 (tgt := 177) (by decide) (fun c9 => ?_) (fun c9 => ?_)
      · have h := h.1 c9
        refine x_widen (k := 9) (n := 54) (Nat.le_of_ble_eq_true rfl) (Nat.le_of_ble_eq_true rfl) ?_
        refine x_keep [true, true, true, true, false, false, true, true] rfl ?_
        exact kJ22 worn h
      · have h := h.2 c9
        refine x_iload (pc := 106) K dL_chains_106 7 rfl ?_
        refine x_aload_n (pc := 108) K dL_chains_108 0 rfl rfl ?_
        refine x_callVi (pc := 109) (n := 0) K (c_X0_countries l D cI cJ cZ cA V land there near worn trial fits ways _ h) rfl rfl gL_chains_X0_countries rfl (by decide +kernel) ⟨Nat.le_of_ble_eq_true rfl, Nat.le_of_ble_eq_true rfl⟩ rfl (av := []) (b := V 0) (ci := 0) (q0 := 0) rfl rfl rfl (Nat.le_of_ble_eq_true rfl) [0, 1, 2, 3, 4, 5, 6] [7, 8, 9, 10, 11, 12, 13, 14, 15, 16, 17] (wr := (wJ cI cA (V 7) (fun k => V (k + 8)) joined)) rfl rfl rfl rfl (by decide) dL_chains_109 ⟨Nat.le_of_ble_eq_true rfl, Nat.le_of_ble_eq_true rfl⟩ (fun r24 u9 h => ?_)
        refine x_wsub (ws' := (wX0J cI cJ cZ cA V land there near worn trial fits ways joined)) [11, 12, 13, 14, 15, 16, 17, 0, 1, 2, 3, 4, 5, 6, 7, 8, 9, 10] rfl rfl ?_
        refine x_icmp_gt (pc := 112) K dL_chains_112 (tgt := 177) (by decide) (fun c9 => ?_) (fun c9 => ?_)
        · have h := h.1 c9
          refine x_widen (k := 9) (n := 54) (Nat.le_of_ble_eq_true rfl) (Nat.le_of_ble_eq_true rfl) ?_
          refine x_keep [true, true, true, true, false, false, true, true] rfl ?_
          exact kJ22 worn h
        · have h := h.2 c9
          refine x_aload_n (pc := 115) K dL_chains_115 0 rfl rfl ?_
          refine x_iload_n (pc := 116) K dL_chains_116 1 rfl rfl ?_
          refine x_iload_n (pc := 117) K dL_chains_117 2 rfl rfl ?_
          refine x_hcallSi (pc := 118) (n := 3) K hE hN (by decide) (c_L_exchange l D cI cJ cZ cA hst V p1 p2 land there near worn trial fits ways joined _ h) rfl rfl gL_chains_L_exchange rfl (by decide +kernel) ⟨Nat.le_of_ble_eq_true rfl, Nat.le_of_ble_eq_true rfl⟩ rfl (av := [.ref (V 0), .int p1, .int p2]) rfl (Nat.le_of_ble_eq_true rfl) [0, 1, 2, 3, 4, 5, 6, 7, 8, 9, 10, 11, 12, 13, 14, 15, 16, 17] [] (wr := []) rfl rfl rfl rfl (by decide) dL_chains_118 ⟨Nat.le_of_ble_eq_true rfl, Nat.le_of_ble_eq_true rfl⟩ (fun r26 worn_25 h => ?_)
          refine x_wsub (ws' := (wX0J cI cJ cZ cA V land there near worn_25 trial fits ways joined)) [0, 1, 2, 3, 4, 5, 6, 7, 8, 9, 10, 11, 12, 13, 14, 15, 16, 17] rfl rfl ?_
          refine x_iload_n (pc := 121) K dL_chains_121 3 rfl rfl ?_
          refine x_iload_n (pc := 122) K dL_chains_122 2 rfl rfl ?_
          obtain ⟨J27, hJ27, h⟩ := xj1_o h
          have kJ27 : ∀ (v28 : Int32), J27 v28 → xw X 6 36 132 [(0, .ref (V 0)), (1, .int p1), (2, .int p2), (3, .int r1), (4, .int r2), (5, .int r3), (6, .long r4), (8, .int r5)] [.int v28, .int r26] (wX0J cI cJ cZ cA V land there near worn_25 trial fits ways joined) := by
            intro v28 hj
            have h := hJ27 v28 hj
            refine x_icmp_ne (pc := 132) K dL_chains_132 (tgt := 177) (by decide) (fun c9 => ?_) (fun c9 => ?_)
            · have h := h.1 c9
              refine x_widen (k := 9) (n := 54) (Nat.le_of_ble_eq_true rfl) (Nat.le_of_ble_eq_true rfl) ?_
              refine x_keep [true, true, true, true, false, false, true, true] rfl ?_
              exact kJ22 worn_25 h
            · have h := h.2 c9
              refine x_aload_n (pc := 135) K dL_chains_135 0 rfl rfl ?_
              refine x_iload_n (pc := 136) K dL_chains_136 1 rfl rfl ?_
              refine x_wcallSi (pc := 137) (n := 2) K (c0_L_tintOf l D cI cJ cZ cA V p1 land there near worn_25 trial fits ways joined _ h) rfl rfl gL_chains_L_tintOf rfl (by decide +kernel) ⟨Nat.le_of_ble_eq_true rfl, Nat.le_of_ble_eq_true rfl⟩ rfl (av := [.ref (V 0), .int p1]) rfl (Nat.le_of_ble_eq_true rfl) [0, 1, 2, 3, 4, 5, 6, 7, 8, 9, 10, 11, 12, 13, 14, 15, 16, 17] [] (wr := []) rfl rfl rfl rfl (by decide) dL_chains_137 ⟨Nat.le_of_ble_eq_true rfl, Nat.le_of_ble_eq_true rfl⟩ (fun r29 u9 h => ?_)
              refine x_wsub (ws' := (wX0J cI cJ cZ cA V land there near worn_25 trial fits ways joined)) [0, 1, 2, 3, 4, 5, 6, 7, 8, 9, 10, 11, 12, 13, 14, 15, 16, 17] rfl rfl ?_
              refine x_iload_n (pc := 140) K dL_chains_140 2 rfl rfl ?_
              refine x_icmp_ne (pc := 141) K dL_chains_141 (tgt := 177) (by decide) (fun c9 => ?_) (fun c9 => ?_)
              · have h := h.1 c9
                refine x_widen (k := 9) (n := 54) (Nat.le_of_ble_eq_true rfl) (Nat.le_of_ble_eq_true rfl) ?_
                refine x_keep [true, true, true, true, false, false, true, true] rfl ?_
                exact kJ22 worn_25 h
              · have h := h.2 c9
                refine x_aload_n (pc := 144) K dL_chains_144 0 rfl rfl ?_
                refine x_callVi (pc := 145) (n := 0) K (c_X0_conflicts l D cI cJ cZ cA V land there near worn_25 trial fits ways _ h) rfl rfl gL_chains_X0_conflicts rfl (by decide +kernel) ⟨Nat.le_of_ble_eq_true rfl, Nat.le_of_ble_eq_true rfl⟩ rfl (av := []) (b := V 0) (ci := 0) (q0 := 0) rfl rfl rfl (Nat.le_of_ble_eq_true rfl) [0, 1, 2, 3, 4, 5, 6] [7, 8, 9, 10, 11, 12, 13, 14, 15, 16, 17] (wr := (wJ cI cA (V 7) (fun k => V (k + 8)) joined)) rfl rfl rfl rfl (by decide) dL_chains_145 ⟨Nat.le_of_ble_eq_true rfl, Nat.le_of_ble_eq_true rfl⟩ (fun r30 u9 h => ?_)
                refine x_wsub (ws' := (wX0J cI cJ cZ cA V land there near worn_25 trial fits ways joined)) [11, 12, 13, 14, 15, 16, 17, 0, 1, 2, 3, 4, 5, 6, 7, 8, 9, 10] rfl rfl ?_
                refine x_iload (pc := 148) K dL_chains_148 5 rfl ?_
                refine x_icmp_ne (pc := 150) K dL_chains_150 (tgt := 177) (by decide) (fun c9 => ?_) (fun c9 => ?_)
                · have h := h.1 c9
                  refine x_widen (k := 9) (n := 54) (Nat.le_of_ble_eq_true rfl) (Nat.le_of_ble_eq_true rfl) ?_
                  refine x_keep [true, true, true, true, false, false, true, true] rfl ?_
                  exact kJ22 worn_25 h
                · have h := h.2 c9
                  refine x_keep [true, true, true, true, true, false, true, true] rfl ?_
                  refine x_aload_n (pc := 153) K dL_chains_153 0 rfl rfl ?_
                  refine x_callVz (pc := 154) (n := 0) K (c_X0_isTinted l D cI cJ cZ cA V land there near worn_25 trial fits ways _ h) rfl rfl gL_chains_X0_isTinted rfl (by decide +kernel) ⟨Nat.le_of_ble_eq_true rfl, Nat.le_of_ble_eq_true rfl⟩ rfl (av := []) (b := V 0) (ci := 0) (q0 := 0) rfl rfl rfl (Nat.le_of_ble_eq_true rfl) [0, 1, 2, 3, 4, 5, 6] [7, 8, 9, 10, 11, 12, 13, 14, 15, 16, 17] (wr := (wJ cI cA (V 7) (fun k => V (k + 8)) joined)) rfl rfl rfl rfl (by decide) dL_chains_154 ⟨Nat.le_of_ble_eq_true rfl, Nat.le_of_ble_eq_true rfl⟩ (fun r31 u9 h => ?_)
                  refine x_wsub (ws' := (wX0J cI cJ cZ cA V land there near worn_25 trial fits ways joined)) [11, 12, 13, 14, 15, 16, 17, 0, 1, 2, 3, 4, 5, 6, 7, 8, 9, 10] rfl rfl ?_
                  refine x_iload (pc := 157) K dL_chains_157 4 rfl ?_
                  refine x_icmp_ne (pc := 159) K dL_chains_159 (tgt := 177) (by decide) (fun c9 => ?_) (fun c9 => ?_)
                  · have h := h.1 c9
                    refine x_widen (k := 9) (n := 54) (Nat.le_of_ble_eq_true rfl) (Nat.le_of_ble_eq_true rfl) ?_
                    refine x_keep [true, true, true, true, false, true, true] rfl ?_
                    exact kJ22 worn_25 h
                  · have h := h.2 c9
                    refine x_keep [true, true, true, true, false, true, true] rfl ?_
                    refine x_aload_n (pc := 162) K dL_chains_162 0 rfl rfl ?_
                    refine x_iload_n (pc := 163) K dL_chains_163 1 rfl rfl ?_
                    refine x_iload_n (pc := 164) K dL_chains_164 3 rfl rfl ?_
                    refine x_hcallSi (pc := 165) (n := 3) K hE hN (by decide) (c_L_chain l D cI cJ cZ cA hst V p1 r1 land there near worn_25 trial fits ways joined _ h) rfl rfl gL_chains_L_chain rfl (by decide +kernel) ⟨Nat.le_of_ble_eq_true rfl, Nat.le_of_ble_eq_true rfl⟩ rfl (av := [.ref (V 0), .int p1, .int r1]) rfl (Nat.le_of_ble_eq_true rfl) [0, 1, 2, 3, 4, 5, 6, 7, 8, 9, 10, 11, 12, 13, 14, 15, 16, 17] [] (wr := []) rfl rfl rfl rfl (by decide) dL_chains_165 ⟨Nat.le_of_ble_eq_true rfl, Nat.le_of_ble_eq_true rfl⟩ (fun r32 u9 h => ?_)
                    refine x_wsub (ws' := (wX0J cI cJ cZ cA V land there near worn_25 trial fits ways joined)) [0, 1, 2, 3, 4, 5, 6, 7, 8, 9, 10, 11, 12, 13, 14, 15, 16, 17] rfl rfl ?_
                    refine x_iload (pc := 168) K dL_chains_168 5 rfl ?_
                    refine x_icmp_ne (pc := 170) K dL_chains_170 (tgt := 177) (by decide) (fun c9 => ?_) (fun c9 => ?_)
                    · have h := h.1 c9
                      exact kJ22 worn_25 h
                    · have h := h.2 c9
                      refine x_iconst (v := (1)) (pc := 173) K dL_chains_173 (by decide) ?_
                      refine x_goto (pc := 174) K dL_chains_174 (tgt := 178) (by decide) ?_
                      exact kJ13 (1 : Int32) worn_25 h
          refine x_icmp_ne (pc := 123) K dL_chains_123 (tgt := 130) (by decide) (fun c9 => ?_) (fun c9 => ?_)
          · have h := h.1 c9
            refine x_iload (pc := 130) K dL_chains_130 7 rfl ?_
            exact kJ27 r5 h
          · have h := h.2 c9
            refine x_iconst (v := (0)) (pc := 126) K dL_chains_126 (by decide) ?_
            refine x_goto (pc := 127) K dL_chains_127 (tgt := 132) (by decide) ?_
            exact kJ27 (0 : Int32) h
    · have h := h.2 c9
      refine x_keep [true, true, true, false, false, false, true, true] rfl ?_
      exact kJ7  h
abbrev rm_L_counts : Room := { frames := 45, cells := 2, slots := 12, locals := 1600 }
theorem kL_counts_0 : Cond.constantLong RL 71 (-1000002) ∈ wsL_counts := by decide +kernel
def q_L_counts_L25 (nb : Nat → Int32) (P0 : Int32 → Prop) : Nat → Int32 → Int32 → Prop
  | 0, _, _ => False
  | n + 1, x5, x8 => (((10 : Int32) ≤ x8 → P0 x5) ∧ (¬ (10 : Int32) ≤ x8 → xin x8 10 = true ∧ q_L_many (nb x8.toNatClampNeg) (fun (r6 : Int32) => ((r6 ≤ x5 → q_L_counts_L25 nb P0 n x5 (x8 + (1 : Int32))) ∧ (¬ r6 ≤ x5 → xin x8 10 = true ∧ q_L_many (nb x8.toNatClampNeg) (fun (r7 : Int32) => q_L_counts_L25 nb P0 n r7 (x8 + (1 : Int32))))))))
def q_L_counts_L67 (u2 : Int32) (u4 : Int32) (there : Int32) (near : Nat → Int32) (P0 : (Nat → Int32) → (Nat → Int64) → (Nat → Nat → Int32) → Prop) (P1 : (Nat → Int32) → (Nat → Int64) → (Nat → Nat → Int32) → Prop) : Nat → Int64 → Int32 → (Nat → Int32) → (Nat → Int64) → (Nat → Nat → Int32) → Prop
  | 0, _, _, _, _, _ => False
  | n + 1, x6, x8, fits, ways, joined => (((11 : Int32) ≤ x8 → P0 fits ways joined) ∧ (¬ (11 : Int32) ≤ x8 → q0_L_tintings x8 there near fits ways (fun (r12 : Int64) (fits_10 : Nat → Int32) (ways_11 : Nat → Int64) => q0_L_tintingsByPairs x8 near there joined (fun (r14 : Int64) (joined_13 : Nat → Nat → Int32) => ((¬ (lg_cmp r12 r14) = (0 : Int32) → P1 fits_10 ways_11 joined_13) ∧ ((lg_cmp r12 r14) = (0 : Int32) → xj1 (fun (v16 : Int32) => xj1 (fun (v18 : Int32) => ((¬ v16 = v18 → P1 fits_10 ways_11 joined_13) ∧ (v16 = v18 → (((lg_cmp r12 x6) < (0 : Int32) → P1 fits_10 ways_11 joined_13) ∧ (¬ (lg_cmp r12 x6) < (0 : Int32) → ((x8 ≤ (0 : Int32) → q_L_counts_L67 u2 u4 there near P0 P1 n r12 (x8 + (1 : Int32)) fits_10 ways_11 joined_13) ∧ (¬ x8 ≤ (0 : Int32) → ((u4 ≤ (0 : Int32) → q_L_counts_L67 u2 u4 there near P0 P1 n r12 (x8 + (1 : Int32)) fits_10 ways_11 joined_13) ∧ (¬ u4 ≤ (0 : Int32) → ¬ x8.toInt64 = 0 ∧ (((lg_cmp (r12 - r12 / x8.toInt64 * x8.toInt64) (0 : Int64)) = (0 : Int32) → q_L_counts_L67 u2 u4 there near P0 P1 n r12 (x8 + (1 : Int32)) fits_10 ways_11 joined_13) ∧ (¬ (lg_cmp (r12 - r12 / x8.toInt64 * x8.toInt64) (0 : Int64)) = (0 : Int32) → P1 fits_10 ways_11 joined_13))))))))))) (fun (J17 : Int32 → Prop) => ((x8 < u2 → J17 (0 : Int32)) ∧ (¬ x8 < u2 → J17 (1 : Int32))))) (fun (J15 : Int32 → Prop) => (((lg_cmp r12 (0 : Int64)) ≤ (0 : Int32) → J15 (0 : Int32)) ∧ (¬ (lg_cmp r12 (0 : Int64)) ≤ (0 : Int32) → J15 (1 : Int32))))))))))
def q_L_counts (there : Int32) (near : Nat → Int32) (trial : Nat → Int32) (fits : Nat → Int32) (ways : Nat → Int64) (joined : Nat → Nat → Int32) (nb : Nat → Int32) (P : Int32 → (Nat → Int32) → (Nat → Int32) → (Nat → Int64) → (Nat → Nat → Int32) → Prop) : Prop := q_X0_fewestTints there near trial (fun (r2 : Int32) (trial_1 : Nat → Int32) => q_X0_allNeighbours there near fits (fun (r4 : Int32) (fits_3 : Nat → Int32) => q_X0_countries there (fun (r5 : Int32) => (∃ n8 : Nat, q_L_counts_L25 nb (fun (v9 : Int32) => (∃ n19 : Nat, q_L_counts_L67 r2 r5 there near (fun (v20 : Nat → Int32) (v21 : Nat → Int64) (v22 : Nat → Nat → Int32) => ((r2 < r4 → (xbool (0 : Int32) ∧ P (0 : Int32) trial_1 v20 v21 v22)) ∧ (¬ r2 < r4 → ((r5 < r2 → (xbool (0 : Int32) ∧ P (0 : Int32) trial_1 v20 v21 v22)) ∧ (¬ r5 < r2 → (((v9 + (1 : Int32)) < r2 → (xbool (0 : Int32) ∧ P (0 : Int32) trial_1 v20 v21 v22)) ∧ (¬ (v9 + (1 : Int32)) < r2 → xj1 (fun (v24 : Int32) => xj1 (fun (v26 : Int32) => ((¬ v24 = v26 → (xbool (0 : Int32) ∧ P (0 : Int32) trial_1 v20 v21 v22)) ∧ (v24 = v26 → (((v9 + (1 : Int32)) < r4 → (xbool (0 : Int32) ∧ P (0 : Int32) trial_1 v20 v21 v22)) ∧ (¬ (v9 + (1 : Int32)) < r4 → xj1 (fun (v28 : Int32) => xj1 (fun (v30 : Int32) => ((¬ v28 = v30 → (xbool (0 : Int32) ∧ P (0 : Int32) trial_1 v20 v21 v22)) ∧ (v28 = v30 → q_L_tintings (11 : Int32) there near v20 v21 (fun (r33 : Int64) (fits_31 : Nat → Int32) (ways_32 : Nat → Int64) => ((¬ (lg_cmp r33 (-1000002 : Int64)) = (0 : Int32) → (xbool (0 : Int32) ∧ P (0 : Int32) trial_1 fits_31 ways_32 v22)) ∧ ((lg_cmp r33 (-1000002 : Int64)) = (0 : Int32) → q_L_tintingsByPairs (-1 : Int32) near there v22 (fun (r35 : Int64) (joined_34 : Nat → Nat → Int32) => ((¬ (lg_cmp r35 (-1000002 : Int64)) = (0 : Int32) → (xbool (0 : Int32) ∧ P (0 : Int32) trial_1 fits_31 ways_32 joined_34)) ∧ ((lg_cmp r35 (-1000002 : Int64)) = (0 : Int32) → (xbool (1 : Int32) ∧ P (1 : Int32) trial_1 fits_31 ways_32 joined_34)))))))))) (fun (J29 : Int32 → Prop) => ((¬ r2 = (0 : Int32) → J29 (0 : Int32)) ∧ (r2 = (0 : Int32) → J29 (1 : Int32))))) (fun (J27 : Int32 → Prop) => ((¬ r5 = (0 : Int32) → J27 (0 : Int32)) ∧ (r5 = (0 : Int32) → J27 (1 : Int32))))))))) (fun (J25 : Int32 → Prop) => ((¬ r5 = (0 : Int32) → J25 (0 : Int32)) ∧ (r5 = (0 : Int32) → J25 (1 : Int32))))) (fun (J23 : Int32 → Prop) => ((¬ r4 = (0 : Int32) → J23 (0 : Int32)) ∧ (r4 = (0 : Int32) → J23 (1 : Int32))))))))))) (fun (v36 : Nat → Int32) (v37 : Nat → Int64) (v38 : Nat → Nat → Int32) => (xbool (0 : Int32) ∧ P (0 : Int32) trial_1 v36 v37 v38)) n19 (0 : Int64) (0 : Int32) fits_3 ways joined)) n8 (0 : Int32) (0 : Int32)))))
set_option maxHeartbeats 4000000 in
set_option maxRecDepth 100000 in
theorem w_L_counts_L25 {X : xC} {l : Launch} {D : va_G} {cI cJ cZ cA : ClassId} {V : Nat → Nat} {a_nb : Nat} (K : xk X l rm_L_counts D vwCl (xtys cI cJ cZ cA) cL_counts RL wsL_counts 11) (u2 : Int32) (u3 : Int32) (u4 : Int32) (u6 : Int64) (land : Nat → Int64) (there : Int32) (near : Nat → Int32) (worn : Nat → Int32) (trial : Nat → Int32) (fits : Nat → Int32) (ways : Nat → Int64) (joined : Nat → Nat → Int32) (nb : Nat → Int32) (hE : xEx X RX0 [(189, "there are not so many tints")]) (hN : xno X) (hst : l.stackTraces = false) (P0 : Int32 → Prop) : ∀ (n : Nat) (x5 : Int32) (x8 : Int32), q_L_counts_L25 nb P0 n x5 x8 → (∀ (z0 : Int32), P0 z0 → xw X 0 0 64 [(0, .ref (V 0)), (2, .int u2), (3, .int u3), (4, .int u4), (5, .int z0), (6, .long u6)] [] ((wX0J cI cJ cZ cA V land there near worn trial fits ways joined) ++ [(a_nb, .inl (cI, 10, .inl nb))])) → xw X 0 0 25 [(0, .ref (V 0)), (1, .ref a_nb), (2, .int u2), (3, .int u3), (4, .int u4), (5, .int x5), (6, .long u6), (8, .int x8)] [] ((wX0J cI cJ cZ cA V land there near worn trial fits ways joined) ++ [(a_nb, .inl (cI, 10, .inl nb))]) := by
  intro n
  induction n with
  | zero =>
    intro x5 x8 h
    rw [q_L_counts_L25] at h
    exact h.elim
  | succ n ih =>
    intro x5 x8 h k0
    rw [q_L_counts_L25] at h
    refine x_iload (pc := 25) K dL_counts_25 7 rfl ?_
    refine x_bipush (v := (10)) (pc := 27) K dL_counts_27 (by decide) ?_
    refine x_icmp_ge (pc := 29) K dL_counts_29 (tgt := 64) (by decide) (fun c9 => ?_) (fun c9 => ?_)
    · have h := h.1 c9
      refine x_keep [true, false, true, true, true, true, true, false] rfl ?_
      exact k0 x5 h
    · have h := h.2 c9
      refine x_aload_n (pc := 32) K dL_counts_32 1 rfl rfl ?_
      refine x_iload (pc := 33) K dL_counts_33 7 rfl ?_
      have g9 := h.1
      replace h := h.2
      refine x_iald (pc := 35) K 18 0 rfl rfl g9 dL_counts_35 ?_
      clear g9
      refine x_pcallSi (pc := 36) (n := 1) K (c_L_many l D cI cJ cZ cA (nb x8.toNatClampNeg) _ h) rfl rfl gL_counts_L_many rfl (by decide +kernel) ⟨Nat.le_of_ble_eq_true rfl, Nat.le_of_ble_eq_true rfl⟩ rfl (av := [.int (nb x8.toNatClampNeg)]) rfl (Nat.le_of_ble_eq_true rfl) dL_counts_36 ⟨Nat.le_of_ble_eq_true rfl, Nat.le_of_ble_eq_true rfl⟩ (fun r6 u9 h => ?_)
      refine x_iload (pc := 39) K dL_counts_39 5 rfl ?_
      refine x_icmp_le (pc := 41) K dL_counts_41 (tgt := 54) (by decide) (fun c9 => ?_) (fun c9 => ?_)
      · have h := h.1 c9
        refine x_iload (pc := 54) K dL_counts_54 5 rfl ?_
        refine x_keep [true, true, true, true, true, false, true, true] rfl ?_
        refine x_istore (lv' := [(0, .ref (V 0)), (1, .ref a_nb), (2, .int u2), (3, .int u3), (4, .int u4), (5, .int x5), (6, .long u6), (8, .int x8)]) (pc := 56) K dL_counts_56 (by decide) rfl ?_
        refine x_iinc (v := x8 + (1 : Int32)) (lv' := [(0, .ref (V 0)), (1, .ref a_nb), (2, .int u2), (3, .int u3), (4, .int u4), (5, .int x5), (6, .long u6), (8, .int (x8 + (1 : Int32)))]) (pc := 58) K dL_counts_58 (k := 7) rfl rfl (by decide) rfl ?_
        refine x_goto (pc := 61) K dL_counts_61 (tgt := 25) (by decide) ?_
        exact ih x5 (x8 + (1 : Int32)) h k0
      · have h := h.2 c9
        refine x_keep [true, true, true, true, true, false, true, true] rfl ?_
        refine x_aload_n (pc := 44) K dL_counts_44 1 rfl rfl ?_
        refine x_iload (pc := 45) K dL_counts_45 6 rfl ?_
        have g9 := h.1
        replace h := h.2
        refine x_iald (pc := 47) K 18 0 rfl rfl g9 dL_counts_47 ?_
        clear g9
        refine x_pcallSi (pc := 48) (n := 1) K (c_L_many l D cI cJ cZ cA (nb x8.toNatClampNeg) _ h) rfl rfl gL_counts_L_many rfl (by decide +kernel) ⟨Nat.le_of_ble_eq_true rfl, Nat.le_of_ble_eq_true rfl⟩ rfl (av := [.int (nb x8.toNatClampNeg)]) rfl (Nat.le_of_ble_eq_true rfl) dL_counts_48 ⟨Nat.le_of_ble_eq_true rfl, Nat.le_of_ble_eq_true rfl⟩ (fun r7 u9 h => ?_)
        refine x_goto (pc := 51) K dL_counts_51 (tgt := 56) (by decide) ?_
        refine x_istore (lv' := [(0, .ref (V 0)), (1, .ref a_nb), (2, .int u2), (3, .int u3), (4, .int u4), (5, .int r7), (6, .long u6), (8, .int x8)]) (pc := 56) K dL_counts_56 (by decide) rfl ?_
        refine x_iinc (v := x8 + (1 : Int32)) (lv' := [(0, .ref (V 0)), (1, .ref a_nb), (2, .int u2), (3, .int u3), (4, .int u4), (5, .int r7), (6, .long u6), (8, .int (x8 + (1 : Int32)))]) (pc := 58) K dL_counts_58 (k := 7) rfl rfl (by decide) rfl ?_
        refine x_goto (pc := 61) K dL_counts_61 (tgt := 25) (by decide) ?_
        exact ih r7 (x8 + (1 : Int32)) h k0
set_option maxHeartbeats 4000000 in
set_option maxRecDepth 100000 in
theorem w_L_counts_L67 {X : xC} {l : Launch} {D : va_G} {cI cJ cZ cA : ClassId} {V : Nat → Nat} {a_nb : Nat} (K : xk X l rm_L_counts D vwCl (xtys cI cJ cZ cA) cL_counts RL wsL_counts 11) (u2 : Int32) (u3 : Int32) (u4 : Int32) (u5 : Int32) (land : Nat → Int64) (there : Int32) (near : Nat → Int32) (worn : Nat → Int32) (trial : Nat → Int32) (nb : Nat → Int32) (hE : xEx X RX0 [(189, "there are not so many tints")]) (hN : xno X) (hst : l.stackTraces = false) (P0 : (Nat → Int32) → (Nat → Int64) → (Nat → Nat → Int32) → Prop) (P1 : (Nat → Int32) → (Nat → Int64) → (Nat → Nat → Int32) → Prop) : ∀ (n : Nat) (x6 : Int64) (x8 : Int32) (fits : Nat → Int32) (ways : Nat → Int64) (joined : Nat → Nat → Int32), q_L_counts_L67 u2 u4 there near P0 P1 n x6 x8 fits ways joined → (∀ (z0 : Nat → Int32) (z1 : Nat → Int64) (z2 : Nat → Nat → Int32), P0 z0 z1 z2 → xw X 0 0 161 [(0, .ref (V 0)), (2, .int u2), (3, .int u3), (4, .int u4), (5, .int u5)] [] ((wX0J cI cJ cZ cA V land there near worn trial z0 z1 z2) ++ [(a_nb, .inl (cI, 10, .inl nb))])) → (∀ (z0 : Nat → Int32) (z1 : Nat → Int64) (z2 : Nat → Nat → Int32), P1 z0 z1 z2 → xw X 0 0 149 [] [] ((wX0J cI cJ cZ cA V land there near worn trial z0 z1 z2) ++ [(a_nb, .inl (cI, 10, .inl nb))])) → xw X 0 0 67 [(0, .ref (V 0)), (2, .int u2), (3, .int u3), (4, .int u4), (5, .int u5), (6, .long x6), (8, .int x8)] [] ((wX0J cI cJ cZ cA V land there near worn trial fits ways joined) ++ [(a_nb, .inl (cI, 10, .inl nb))]) := by
  intro n
  induction n with
  | zero =>
    intro x6 x8 fits ways joined h
    rw [q_L_counts_L67] at h
    exact h.elim
  | succ n ih =>
    intro x6 x8 fits ways joined h k0 k1
    rw [q_L_counts_L67] at h
    refine x_iload (pc := 67) K dL_counts_67 6 rfl ?_
    refine x_bipush (v := (11)) (pc := 69) K dL_counts_69 (by decide) ?_
    refine x_icmp_ge (pc := 71) K dL_counts_71 (tgt := 161) (by decide) (fun c9 => ?_) (fun c9 => ?_)
    · have h := h.1 c9
      refine x_keep [true, true, true, true, true, false, false] rfl ?_
      exact k0 fits ways joined h
    · have h := h.2 c9
      refine x_aload_n (pc := 74) K dL_counts_74 0 rfl rfl ?_
      refine x_iload (pc := 75) K dL_counts_75 6 rfl ?_
      refine x_wcallSl (pc := 77) (n := 2) K (c0_L_tintings l D cI cJ cZ cA V x8 land there near worn trial fits ways joined _ h) rfl rfl gL_counts_L_tintings rfl (by decide +kernel) ⟨Nat.le_of_ble_eq_true rfl, Nat.le_of_ble_eq_true rfl⟩ rfl (av := [.ref (V 0), .int x8]) rfl (Nat.le_of_ble_eq_true rfl) [0, 1, 2, 3, 4, 5, 6, 7, 8, 9, 10, 11, 12, 13, 14, 15, 16, 17] [18] (wr := [(a_nb, .inl (cI, 10, .inl nb))]) rfl rfl rfl rfl (by decide) dL_counts_77 ⟨Nat.le_of_ble_eq_true rfl, Nat.le_of_ble_eq_true rfl⟩ (fun r12 u9 h => ?_)
      obtain ⟨fits_10, ways_11⟩ := u9
      refine x_wsub (ws' := ((wX0J cI cJ cZ cA V land there near worn trial fits_10 ways_11 joined) ++ [(a_nb, .inl (cI, 10, .inl nb))])) [1, 2, 3, 4, 5, 6, 7, 8, 9, 10, 11, 12, 13, 14, 15, 16, 17, 18, 0] rfl rfl ?_
      refine x_lstore (lv' := [(0, .ref (V 0)), (2, .int u2), (3, .int u3), (4, .int u4), (5, .int u5), (6, .long x6), (8, .int x8), (9, .long r12)]) (pc := 80) K dL_counts_80 (by decide) rfl ?_
      refine x_lload (pc := 82) K dL_counts_82 7 rfl ?_
      refine x_aload_n (pc := 84) K dL_counts_84 0 rfl rfl ?_
      refine x_iload (pc := 85) K dL_counts_85 6 rfl ?_
      refine x_wcallSl (pc := 87) (n := 2) K (c0_L_tintingsByPairs l D cI cJ cZ cA V x8 land there near worn trial fits_10 ways_11 joined _ h) rfl rfl gL_counts_L_tintingsByPairs rfl (by decide +kernel) ⟨Nat.le_of_ble_eq_true rfl, Nat.le_of_ble_eq_true rfl⟩ rfl (av := [.ref (V 0), .int x8]) rfl (Nat.le_of_ble_eq_true rfl) [0, 1, 2, 3, 4, 5, 6, 7, 8, 9, 10, 11, 12, 13, 14, 15, 16, 17] [18] (wr := [(a_nb, .inl (cI, 10, .inl nb))]) rfl rfl rfl rfl (by decide) dL_counts_87 ⟨Nat.le_of_ble_eq_true rfl, Nat.le_of_ble_eq_true rfl⟩ (fun r14 joined_13 h => ?_)
      refine x_wsub (ws' := ((wX0J cI cJ cZ cA V land there near worn trial fits_10 ways_11 joined_13) ++ [(a_nb, .inl (cI, 10, .inl nb))])) [1, 2, 3, 4, 5, 6, 7, 8, 9, 10, 11, 12, 13, 14, 15, 16, 17, 18, 0] rfl rfl ?_
      refine x_lcmp (pc := 90) K dL_counts_90 ?_
      refine x_if_ne (pc := 91) K dL_counts_91 (tgt := 149) (by decide) (fun c9 => ?_) (fun c9 => ?_)
      · have h := h.1 c9
        refine x_keep [false, false, false, false, false, false, false, false] rfl ?_
        exact k1 fits_10 ways_11 joined_13 h
      · have h := h.2 c9
        refine x_lload (pc := 94) K dL_counts_94 7 rfl ?_
        refine x_lconst (v := (0)) (pc := 96) K dL_counts_96 (by decide) ?_
        refine x_lcmp (pc := 97) K dL_counts_97 ?_
        obtain ⟨J15, hJ15, h⟩ := xj1_o h
        have kJ15 : ∀ (v16 : Int32), J15 v16 → xw X 0 0 106 [(0, .ref (V 0)), (2, .int u2), (3, .int u3), (4, .int u4), (5, .int u5), (6, .long x6), (8, .int x8), (9, .long r12)] [.int v16] ((wX0J cI cJ cZ cA V land there near worn trial fits_10 ways_11 joined_13) ++ [(a_nb, .inl (cI, 10, .inl nb))]) := by
          intro v16 hj
          have h := hJ15 v16 hj
          refine x_iload (pc := 106) K dL_counts_106 6 rfl ?_
          refine x_iload_n (pc := 108) K dL_counts_108 1 rfl rfl ?_
          obtain ⟨J17, hJ17, h⟩ := xj1_o h
          have kJ17 : ∀ (v18 : Int32), J17 v18 → xw X 0 0 117 [(0, .ref (V 0)), (2, .int u2), (3, .int u3), (4, .int u4), (5, .int u5), (6, .long x6), (8, .int x8), (9, .long r12)] [.int v18, .int v16] ((wX0J cI cJ cZ cA V land there near worn trial fits_10 ways_11 joined_13) ++ [(a_nb, .inl (cI, 10, .inl nb))]) := by
            intro v18 hj
            have h := hJ17 v18 hj
            refine x_icmp_ne (pc := 117) K dL_counts_117 (tgt := 149) (by decide) (fun c9 => ?_) (fun c9 => ?_)
            · have h := h.1 c9
              refine x_keep [false, false, false, false, false, false, false, false] rfl ?_
              exact k1 fits_10 ways_11 joined_13 h
            · have h := h.2 c9
              refine x_lload (pc := 120) K dL_counts_120 7 rfl ?_
              refine x_lload (pc := 122) K dL_counts_122 5 rfl ?_
              refine x_lcmp (pc := 124) K dL_counts_124 ?_
              refine x_if_lt (pc := 125) K dL_counts_125 (tgt := 149) (by decide) (fun c9 => ?_) (fun c9 => ?_)
              · have h := h.1 c9
                refine x_keep [false, false, false, false, false, false, false, false] rfl ?_
                exact k1 fits_10 ways_11 joined_13 h
              · have h := h.2 c9
                refine x_keep [true, true, true, true, true, false, true, true] rfl ?_
                refine x_iload (pc := 128) K dL_counts_128 5 rfl ?_
                refine x_if_le (pc := 130) K dL_counts_130 (tgt := 151) (by decide) (fun c9 => ?_) (fun c9 => ?_)
                · have h := h.1 c9
                  refine x_lload (pc := 151) K dL_counts_151 6 rfl ?_
                  refine x_lstore (lv' := [(0, .ref (V 0)), (2, .int u2), (3, .int u3), (4, .int u4), (5, .int u5), (6, .long r12), (8, .int x8), (9, .long r12)]) (pc := 153) K dL_counts_153 (by decide) rfl ?_
                  refine x_iinc (v := x8 + (1 : Int32)) (lv' := [(0, .ref (V 0)), (2, .int u2), (3, .int u3), (4, .int u4), (5, .int u5), (6, .long r12), (8, .int (x8 + (1 : Int32))), (9, .long r12)]) (pc := 155) K dL_counts_155 (k := 6) rfl rfl (by decide) rfl ?_
                  refine x_goto (pc := 158) K dL_counts_158 (tgt := 67) (by decide) ?_
                  refine x_keep [true, true, true, true, true, true, true, false] rfl ?_
                  exact ih r12 (x8 + (1 : Int32)) fits_10 ways_11 joined_13 h k0 k1
                · have h := h.2 c9
                  refine x_iload (pc := 133) K dL_counts_133 3 rfl ?_
                  refine x_if_le (pc := 135) K dL_counts_135 (tgt := 151) (by decide) (fun c9 => ?_) (fun c9 => ?_)
                  · have h := h.1 c9
                    refine x_lload (pc := 151) K dL_counts_151 6 rfl ?_
                    refine x_lstore (lv' := [(0, .ref (V 0)), (2, .int u2), (3, .int u3), (4, .int u4), (5, .int u5), (6, .long r12), (8, .int x8), (9, .long r12)]) (pc := 153) K dL_counts_153 (by decide) rfl ?_
                    refine x_iinc (v := x8 + (1 : Int32)) (lv' := [(0, .ref (V 0)), (2, .int u2), (3, .int u3), (4, .int u4), (5, .int u5), (6, .long r12), (8, .int (x8 + (1 : Int32))), (9, .long r12)]) (pc := 155) K dL_counts_155 (k := 6) rfl rfl (by decide) rfl ?_
                    refine x_goto (pc := 158) K dL_counts_158 (tgt := 67) (by decide) ?_
                    refine x_keep [true, true, true, true, true, true, true, false] rfl ?_
                    exact ih r12 (x8 + (1 : Int32)) fits_10 ways_11 joined_13 h k0 k1
                  · have h := h.2 c9
                    refine x_lload (pc := 138) K dL_counts_138 6 rfl ?_
                    refine x_iload (pc := 140) K dL_counts_140 5 rfl ?_
                    refine x_i2l (pc := 142) K dL_counts_142 ?_
                    have g9 := h.1
                    replace h := h.2
                    refine x_lrem (pc := 143) K g9 dL_counts_143 ?_
                    clear g9
                    refine x_lconst (v := (0)) (pc := 144) K dL_counts_144 (by decide) ?_
                    refine x_lcmp (pc := 145) K dL_counts_145 ?_
                    refine x_if_eq (pc := 146) K dL_counts_146 (tgt := 151) (by decide) (fun c9 => ?_) (fun c9 => ?_)
                    · have h := h.1 c9
                      refine x_lload (pc := 151) K dL_counts_151 6 rfl ?_
                      refine x_lstore (lv' := [(0, .ref (V 0)), (2, .int u2), (3, .int u3), (4, .int u4), (5, .int u5), (6, .long r12), (8, .int x8), (9, .long r12)]) (pc := 153) K dL_counts_153 (by decide) rfl ?_
                      refine x_iinc (v := x8 + (1 : Int32)) (lv' := [(0, .ref (V 0)), (2, .int u2), (3, .int u3), (4, .int u4), (5, .int u5), (6, .long r12), (8, .int (x8 + (1 : Int32))), (9, .long r12)]) (pc := 155) K dL_counts_155 (k := 6) rfl rfl (by decide) rfl ?_
                      refine x_goto (pc := 158) K dL_counts_158 (tgt := 67) (by decide) ?_
                      refine x_keep [true, true, true, true, true, true, true, false] rfl ?_
                      exact ih r12 (x8 + (1 : Int32)) fits_10 ways_11 joined_13 h k0 k1
                    · have h := h.2 c9
                      refine x_keep [false, false, false, false, false, false, false] rfl ?_
                      exact k1 fits_10 ways_11 joined_13 h
          refine x_icmp_lt (pc := 109) K dL_counts_109 (tgt := 116) (by decide) (fun c9 => ?_) (fun c9 => ?_)
          · have h := h.1 c9
            refine x_iconst (v := (0)) (pc := 116) K dL_counts_116 (by decide) ?_
            exact kJ17 (0 : Int32) h
          · have h := h.2 c9
            refine x_iconst (v := (1)) (pc := 112) K dL_counts_112 (by decide) ?_
            refine x_goto (pc := 113) K dL_counts_113 (tgt := 117) (by decide) ?_
            exact kJ17 (1 : Int32) h
        refine x_if_le (pc := 98) K dL_counts_98 (tgt := 105) (by decide) (fun c9 => ?_) (fun c9 => ?_)
        · have h := h.1 c9
          refine x_iconst (v := (0)) (pc := 105) K dL_counts_105 (by decide) ?_
          exact kJ15 (0 : Int32) h
        · have h := h.2 c9
          refine x_iconst (v := (1)) (pc := 101) K dL_counts_101 (by decide) ?_
          refine x_goto (pc := 102) K dL_counts_102 (tgt := 106) (by decide) ?_
          exact kJ15 (1 : Int32) h
set_option maxHeartbeats 4000000 in
set_option maxRecDepth 100000 in
theorem c_L_counts (l : Launch) (D : va_G) (cI cJ cZ cA : ClassId) (hst : l.stackTraces = false) (V : Nat → Nat) (a_nb : Nat) (land : Nat → Int64) (there : Int32) (near : Nat → Int32) (worn : Nat → Int32) (trial : Nat → Int32) (fits : Nat → Int32) (ways : Nat → Int64) (joined : Nat → Nat → Int32) (nb : Nat → Int32) (P : Int32 → (Nat → Int32) → (Nat → Int32) → (Nat → Int64) → (Nat → Nat → Int32) → Prop) (h : q_L_counts there near trial fits ways joined nb P) : xHz l yL_counts wsL_counts rm_L_counts D vwCl (xtys cI cJ cZ cA) ((wX0J cI cJ cZ cA V land there near worn trial fits ways joined) ++ [(a_nb, .inl (cI, 10, .inl nb))]) [.ref (V 0), .ref a_nb] RX0 [(189, "there are not so many tints")] (σ := (Nat → Int32) × (Nat → Int32) × (Nat → Int64) × (Nat → Nat → Int32)) (fun u => ((wX0J cI cJ cZ cA V land there near worn u.1 u.2.1 u.2.2.1 u.2.2.2) ++ [(a_nb, .inl (cI, 10, .inl nb))])) (fun r u => P r u.1 u.2.1 u.2.2.1 u.2.2.2) 2 12 := by
  refine xHz_of (cc := cL_counts) (maxL := 11) (by decide) rfl (Nat.le_of_ble_eq_true rfl) ?_
  intro X K hE hN hX
  have K : xk X l rm_L_counts D vwCl (xtys cI cJ cZ cA) cL_counts RL wsL_counts 11 := K
  unfold q_L_counts at h
  refine x_aload_n (pc := 0) K dL_counts_0 0 rfl rfl ?_
  refine x_callVi (pc := 1) (n := 0) K (c_X0_fewestTints l D cI cJ cZ cA V land there near worn trial fits ways _ h) rfl rfl gL_counts_X0_fewestTints rfl (by decide +kernel) ⟨Nat.le_of_ble_eq_true rfl, Nat.le_of_ble_eq_true rfl⟩ rfl (av := []) (b := V 0) (ci := 0) (q0 := 0) rfl rfl rfl (Nat.le_of_ble_eq_true rfl) [0, 1, 2, 3, 4, 5, 6] [7, 8, 9, 10, 11, 12, 13, 14, 15, 16, 17, 18] (wr := (wJ cI cA (V 7) (fun k => V (k + 8)) joined ++ [(a_nb, .inl (cI, 10, .inl nb))])) rfl rfl rfl rfl (by decide) dL_counts_1 ⟨Nat.le_of_ble_eq_true rfl, Nat.le_of_ble_eq_true rfl⟩ (fun r2 trial_1 h => ?_)
  refine x_wsub (ws' := ((wX0J cI cJ cZ cA V land there near worn trial_1 fits ways joined) ++ [(a_nb, .inl (cI, 10, .inl nb))])) [12, 13, 14, 15, 16, 17, 18, 0, 1, 2, 3, 4, 5, 6, 7, 8, 9, 10, 11] rfl rfl ?_
  refine x_istore_n (lv' := [(0, .ref (V 0)), (1, .ref a_nb), (2, .int r2)]) (pc := 4) K dL_counts_4 rfl (by decide) rfl ?_
  refine x_aload_n (pc := 5) K dL_counts_5 0 rfl rfl ?_
  refine x_callVi (pc := 6) (n := 0) K (c_X0_allNeighbours l D cI cJ cZ cA V land there near worn trial_1 fits ways _ h) rfl rfl gL_counts_X0_allNeighbours rfl (by decide +kernel) ⟨Nat.le_of_ble_eq_true rfl, Nat.le_of_ble_eq_true rfl⟩ rfl (av := []) (b := V 0) (ci := 0) (q0 := 0) rfl rfl rfl (Nat.le_of_ble_eq_true rfl) [0, 1, 2, 3, 4, 5, 6] [7, 8, 9, 10, 11, 12, 13, 14, 15, 16, 17, 18] (wr := (wJ cI cA (V 7) (fun k => V (k + 8)) joined ++ [(a_nb, .inl (cI, 10, .inl nb))])) rfl rfl rfl rfl (by decide) dL_counts_6 ⟨Nat.le_of_ble_eq_true rfl, Nat.le_of_ble_eq_true rfl⟩ (fun r4 fits_3 h => ?_)
  refine x_wsub (ws' := ((wX0J cI cJ cZ cA V land there near worn trial_1 fits_3 ways joined) ++ [(a_nb, .inl (cI, 10, .inl nb))])) [12, 13, 14, 15, 16, 17, 18, 0, 1, 2, 3, 4, 5, 6, 7, 8, 9, 10, 11] rfl rfl ?_
  refine x_istore_n (lv' := [(0, .ref (V 0)), (1, .ref a_nb), (2, .int r2), (3, .int r4)]) (pc := 9) K dL_counts_9 rfl (by decide) rfl ?_
  refine x_aload_n (pc := 10) K dL_counts_10 0 rfl rfl ?_
  refine x_callVi (pc := 11) (n := 0) K (c_X0_countries l D cI cJ cZ cA V land there near worn trial_1 fits_3 ways _ h) rfl rfl gL_counts_X0_countries rfl (by decide +kernel) ⟨Nat.le_of_ble_eq_true rfl, Nat.le_of_ble_eq_true rfl⟩ rfl (av := []) (b := V 0) (ci := 0) (q0 := 0) rfl rfl rfl (Nat.le_of_ble_eq_true rfl) [0, 1, 2, 3, 4, 5, 6] [7, 8, 9, 10, 11, 12, 13, 14, 15, 16, 17, 18] (wr := (wJ cI cA (V 7) (fun k => V (k + 8)) joined ++ [(a_nb, .inl (cI, 10, .inl nb))])) rfl rfl rfl rfl (by decide) dL_counts_11 ⟨Nat.le_of_ble_eq_true rfl, Nat.le_of_ble_eq_true rfl⟩ (fun r5 u9 h => ?_)
  refine x_wsub (ws' := ((wX0J cI cJ cZ cA V land there near worn trial_1 fits_3 ways joined) ++ [(a_nb, .inl (cI, 10, .inl nb))])) [12, 13, 14, 15, 16, 17, 18, 0, 1, 2, 3, 4, 5, 6, 7, 8, 9, 10, 11] rfl rfl ?_
  refine x_istore (lv' := [(0, .ref (V 0)), (1, .ref a_nb), (2, .int r2), (3, .int r4), (4, .int r5)]) (pc := 14) K dL_counts_14 (by decide) rfl ?_
  refine x_iconst (v := (0)) (pc := 16) K dL_counts_16 (by decide) ?_
  refine x_istore (lv' := [(0, .ref (V 0)), (1, .ref a_nb), (2, .int r2), (3, .int r4), (4, .int r5), (5, .int (0 : Int32))]) (pc := 17) K dL_counts_17 (by decide) rfl ?_
  refine x_lconst (v := (0)) (pc := 19) K dL_counts_19 (by decide) ?_
  refine x_lstore (lv' := [(0, .ref (V 0)), (1, .ref a_nb), (2, .int r2), (3, .int r4), (4, .int r5), (5, .int (0 : Int32)), (6, .long (0 : Int64))]) (pc := 20) K dL_counts_20 (by decide) rfl ?_
  refine x_iconst (v := (0)) (pc := 22) K dL_counts_22 (by decide) ?_
  refine x_istore (lv' := [(0, .ref (V 0)), (1, .ref a_nb), (2, .int r2), (3, .int r4), (4, .int r5), (5, .int (0 : Int32)), (6, .long (0 : Int64)), (8, .int (0 : Int32))]) (pc := 23) K dL_counts_23 (by decide) rfl ?_
  obtain ⟨n8, h⟩ := h
  refine w_L_counts_L25 K r2 r4 r5 (0 : Int64) land there near worn trial_1 fits_3 ways joined nb hE hN hst _ n8 (0 : Int32) (0 : Int32) h (fun v9 h => ?_)
  refine x_iconst (v := (0)) (pc := 64) K dL_counts_64 (by decide) ?_
  refine x_istore (lv' := [(0, .ref (V 0)), (2, .int r2), (3, .int r4), (4, .int r5), (5, .int v9), (6, .long (0 : Int64)), (8, .int (0 : Int32))]) (pc := 65) K dL_counts_65 (by decide) rfl ?_
  obtain ⟨n19, h⟩ := h
  refine w_L_counts_L67 K r2 r4 r5 v9 land there near worn trial_1 nb hE hN hst _ _ n19 (0 : Int64) (0 : Int32) fits_3 ways joined h (fun v20 v21 v22 h => ?_) (fun v36 v37 v38 h => ?_)
  · refine x_iload_n (pc := 161) K dL_counts_161 1 rfl rfl ?_
    refine x_iload_n (pc := 162) K dL_counts_162 2 rfl rfl ?_
    refine x_icmp_lt (pc := 163) K dL_counts_163 (tgt := 261) (by decide) (fun c9 => ?_) (fun c9 => ?_)
    · have h := h.1 c9
      refine x_keep [false, false, false, false, false] rfl ?_
      refine x_iconst (v := (0)) (pc := 261) K dL_counts_261 (by decide) ?_
      refine x_widen (k := 2) (n := 12) (Nat.le_of_ble_eq_true rfl) (Nat.le_of_ble_eq_true rfl) ?_
      exact hX (0 : Int32) (trial_1, v20, v21, v22) _ _ h.2 h.1 dL_counts_262
    · have h := h.2 c9
      refine x_iload_n (pc := 166) K dL_counts_166 1 rfl rfl ?_
      refine x_iload (pc := 167) K dL_counts_167 3 rfl ?_
      refine x_icmp_gt (pc := 169) K dL_counts_169 (tgt := 261) (by decide) (fun c9 => ?_) (fun c9 => ?_)
      · have h := h.1 c9
        refine x_keep [false, false, false, false, false] rfl ?_
        refine x_iconst (v := (0)) (pc := 261) K dL_counts_261 (by decide) ?_
        refine x_widen (k := 2) (n := 12) (Nat.le_of_ble_eq_true rfl) (Nat.le_of_ble_eq_true rfl) ?_
        exact hX (0 : Int32) (trial_1, v20, v21, v22) _ _ h.2 h.1 dL_counts_262
      · have h := h.2 c9
        refine x_iload_n (pc := 172) K dL_counts_172 1 rfl rfl ?_
        refine x_iload (pc := 173) K dL_counts_173 4 rfl ?_
        refine x_iconst (v := (1)) (pc := 175) K dL_counts_175 (by decide) ?_
        refine x_iadd (pc := 176) K dL_counts_176 ?_
        refine x_icmp_gt (pc := 177) K dL_counts_177 (tgt := 261) (by decide) (fun c9 => ?_) (fun c9 => ?_)
        · have h := h.1 c9
          refine x_keep [false, false, false, false, false] rfl ?_
          refine x_iconst (v := (0)) (pc := 261) K dL_counts_261 (by decide) ?_
          refine x_widen (k := 2) (n := 12) (Nat.le_of_ble_eq_true rfl) (Nat.le_of_ble_eq_true rfl) ?_
          exact hX (0 : Int32) (trial_1, v20, v21, v22) _ _ h.2 h.1 dL_counts_262
        · have h := h.2 c9
          refine x_iload_n (pc := 180) K dL_counts_180 2 rfl rfl ?_
          obtain ⟨J23, hJ23, h⟩ := xj1_o h
          have kJ23 : ∀ (v24 : Int32), J23 v24 → xw X 0 0 189 [(0, .ref (V 0)), (2, .int r2), (3, .int r4), (4, .int r5), (5, .int v9)] [.int v24] ((wX0J cI cJ cZ cA V land there near worn trial_1 v20 v21 v22) ++ [(a_nb, .inl (cI, 10, .inl nb))]) := by
            intro v24 hj
            have h := hJ23 v24 hj
            refine x_iload (pc := 189) K dL_counts_189 3 rfl ?_
            obtain ⟨J25, hJ25, h⟩ := xj1_o h
            have kJ25 : ∀ (v26 : Int32), J25 v26 → xw X 0 0 199 [(0, .ref (V 0)), (2, .int r2), (3, .int r4), (4, .int r5), (5, .int v9)] [.int v26, .int v24] ((wX0J cI cJ cZ cA V land there near worn trial_1 v20 v21 v22) ++ [(a_nb, .inl (cI, 10, .inl nb))]) := by
              intro v26 hj
              have h := hJ25 v26 hj
              refine x_icmp_ne (pc := 199) K dL_counts_199 (tgt := 261) (by decide) (fun c9 => ?_) (fun c9 => ?_)
              · have h := h.1 c9
                refine x_keep [false, false, false, false, false] rfl ?_
                refine x_iconst (v := (0)) (pc := 261) K dL_counts_261 (by decide) ?_
                refine x_widen (k := 2) (n := 12) (Nat.le_of_ble_eq_true rfl) (Nat.le_of_ble_eq_true rfl) ?_
                exact hX (0 : Int32) (trial_1, v20, v21, v22) _ _ h.2 h.1 dL_counts_262
              · have h := h.2 c9
                refine x_iload_n (pc := 202) K dL_counts_202 2 rfl rfl ?_
                refine x_iload (pc := 203) K dL_counts_203 4 rfl ?_
                refine x_iconst (v := (1)) (pc := 205) K dL_counts_205 (by decide) ?_
                refine x_iadd (pc := 206) K dL_counts_206 ?_
                refine x_icmp_gt (pc := 207) K dL_counts_207 (tgt := 261) (by decide) (fun c9 => ?_) (fun c9 => ?_)
                · have h := h.1 c9
                  refine x_keep [false, false, false, false, false] rfl ?_
                  refine x_iconst (v := (0)) (pc := 261) K dL_counts_261 (by decide) ?_
                  refine x_widen (k := 2) (n := 12) (Nat.le_of_ble_eq_true rfl) (Nat.le_of_ble_eq_true rfl) ?_
                  exact hX (0 : Int32) (trial_1, v20, v21, v22) _ _ h.2 h.1 dL_counts_262
                · have h := h.2 c9
                  refine x_keep [true, true, false, true, false] rfl ?_
                  refine x_iload (pc := 210) K dL_counts_210 2 rfl ?_
                  obtain ⟨J27, hJ27, h⟩ := xj1_o h
                  have kJ27 : ∀ (v28 : Int32), J27 v28 → xw X 0 0 220 [(0, .ref (V 0)), (2, .int r2)] [.int v28] ((wX0J cI cJ cZ cA V land there near worn trial_1 v20 v21 v22) ++ [(a_nb, .inl (cI, 10, .inl nb))]) := by
                    intro v28 hj
                    have h := hJ27 v28 hj
                    refine x_iload_n (pc := 220) K dL_counts_220 1 rfl rfl ?_
                    obtain ⟨J29, hJ29, h⟩ := xj1_o h
                    have kJ29 : ∀ (v30 : Int32), J29 v30 → xw X 0 0 229 [(0, .ref (V 0))] [.int v30, .int v28] ((wX0J cI cJ cZ cA V land there near worn trial_1 v20 v21 v22) ++ [(a_nb, .inl (cI, 10, .inl nb))]) := by
                      intro v30 hj
                      have h := hJ29 v30 hj
                      refine x_icmp_ne (pc := 229) K dL_counts_229 (tgt := 261) (by decide) (fun c9 => ?_) (fun c9 => ?_)
                      · have h := h.1 c9
                        refine x_keep [false] rfl ?_
                        refine x_iconst (v := (0)) (pc := 261) K dL_counts_261 (by decide) ?_
                        refine x_widen (k := 2) (n := 12) (Nat.le_of_ble_eq_true rfl) (Nat.le_of_ble_eq_true rfl) ?_
                        exact hX (0 : Int32) (trial_1, v20, v21, v22) _ _ h.2 h.1 dL_counts_262
                      · have h := h.2 c9
                        refine x_aload_n (pc := 232) K dL_counts_232 0 rfl rfl ?_
                        refine x_bipush (v := (11)) (pc := 233) K dL_counts_233 (by decide) ?_
                        refine x_hcallSl (pc := 235) (n := 2) K hE hN (by decide) (c_L_tintings l D cI cJ cZ cA hst V (11 : Int32) land there near worn trial_1 v20 v21 v22 _ h) rfl rfl gL_counts_L_tintings rfl (by decide +kernel) ⟨Nat.le_of_ble_eq_true rfl, Nat.le_of_ble_eq_true rfl⟩ rfl (av := [.ref (V 0), .int (11 : Int32)]) rfl (Nat.le_of_ble_eq_true rfl) [0, 1, 2, 3, 4, 5, 6, 7, 8, 9, 10, 11, 12, 13, 14, 15, 16, 17] [18] (wr := [(a_nb, .inl (cI, 10, .inl nb))]) rfl rfl rfl rfl (by decide) dL_counts_235 ⟨Nat.le_of_ble_eq_true rfl, Nat.le_of_ble_eq_true rfl⟩ (fun r33 u9 h => ?_)
                        obtain ⟨fits_31, ways_32⟩ := u9
                        refine x_wsub (ws' := ((wX0J cI cJ cZ cA V land there near worn trial_1 fits_31 ways_32 v22) ++ [(a_nb, .inl (cI, 10, .inl nb))])) [1, 2, 3, 4, 5, 6, 7, 8, 9, 10, 11, 12, 13, 14, 15, 16, 17, 18, 0] rfl rfl ?_
                        refine x_ldc2 (pc := 238) (v := (-1000002)) K kL_counts_0 dL_counts_238 ?_
                        refine x_lcmp (pc := 241) K dL_counts_241 ?_
                        refine x_if_ne (pc := 242) K dL_counts_242 (tgt := 261) (by decide) (fun c9 => ?_) (fun c9 => ?_)
                        · have h := h.1 c9
                          refine x_keep [false] rfl ?_
                          refine x_iconst (v := (0)) (pc := 261) K dL_counts_261 (by decide) ?_
                          refine x_widen (k := 2) (n := 12) (Nat.le_of_ble_eq_true rfl) (Nat.le_of_ble_eq_true rfl) ?_
                          exact hX (0 : Int32) (trial_1, fits_31, ways_32, v22) _ _ h.2 h.1 dL_counts_262
                        · have h := h.2 c9
                          refine x_aload_n (pc := 245) K dL_counts_245 0 rfl rfl ?_
                          refine x_iconst (v := (-1)) (pc := 246) K dL_counts_246 (by decide) ?_
                          refine x_hcallSl (pc := 247) (n := 2) K hE hN (by decide) (c_L_tintingsByPairs l D cI cJ cZ cA hst V (-1 : Int32) land there near worn trial_1 fits_31 ways_32 v22 _ h) rfl rfl gL_counts_L_tintingsByPairs rfl (by decide +kernel) ⟨Nat.le_of_ble_eq_true rfl, Nat.le_of_ble_eq_true rfl⟩ rfl (av := [.ref (V 0), .int (-1 : Int32)]) rfl (Nat.le_of_ble_eq_true rfl) [0, 1, 2, 3, 4, 5, 6, 7, 8, 9, 10, 11, 12, 13, 14, 15, 16, 17] [18] (wr := [(a_nb, .inl (cI, 10, .inl nb))]) rfl rfl rfl rfl (by decide) dL_counts_247 ⟨Nat.le_of_ble_eq_true rfl, Nat.le_of_ble_eq_true rfl⟩ (fun r35 joined_34 h => ?_)
                          refine x_wsub (ws' := ((wX0J cI cJ cZ cA V land there near worn trial_1 fits_31 ways_32 joined_34) ++ [(a_nb, .inl (cI, 10, .inl nb))])) [1, 2, 3, 4, 5, 6, 7, 8, 9, 10, 11, 12, 13, 14, 15, 16, 17, 18, 0] rfl rfl ?_
                          refine x_ldc2 (pc := 250) (v := (-1000002)) K kL_counts_0 dL_counts_250 ?_
                          refine x_lcmp (pc := 253) K dL_counts_253 ?_
                          refine x_if_ne (pc := 254) K dL_counts_254 (tgt := 261) (by decide) (fun c9 => ?_) (fun c9 => ?_)
                          · have h := h.1 c9
                            refine x_keep [false] rfl ?_
                            refine x_iconst (v := (0)) (pc := 261) K dL_counts_261 (by decide) ?_
                            exact hX (0 : Int32) (trial_1, fits_31, ways_32, joined_34) _ _ h.2 h.1 dL_counts_262
                          · have h := h.2 c9
                            refine x_keep [false] rfl ?_
                            refine x_iconst (v := (1)) (pc := 257) K dL_counts_257 (by decide) ?_
                            refine x_goto (pc := 258) K dL_counts_258 (tgt := 262) (by decide) ?_
                            exact hX (1 : Int32) (trial_1, fits_31, ways_32, joined_34) _ _ h.2 h.1 dL_counts_262
                    refine x_if_ne (pc := 221) K dL_counts_221 (tgt := 228) (by decide) (fun c9 => ?_) (fun c9 => ?_)
                    · have h := h.1 c9
                      refine x_keep [true, false] rfl ?_
                      refine x_iconst (v := (0)) (pc := 228) K dL_counts_228 (by decide) ?_
                      exact kJ29 (0 : Int32) h
                    · have h := h.2 c9
                      refine x_keep [true, false] rfl ?_
                      refine x_iconst (v := (1)) (pc := 224) K dL_counts_224 (by decide) ?_
                      refine x_goto (pc := 225) K dL_counts_225 (tgt := 229) (by decide) ?_
                      exact kJ29 (1 : Int32) h
                  refine x_if_ne (pc := 212) K dL_counts_212 (tgt := 219) (by decide) (fun c9 => ?_) (fun c9 => ?_)
                  · have h := h.1 c9
                    refine x_keep [true, true, false] rfl ?_
                    refine x_iconst (v := (0)) (pc := 219) K dL_counts_219 (by decide) ?_
                    exact kJ27 (0 : Int32) h
                  · have h := h.2 c9
                    refine x_keep [true, true, false] rfl ?_
                    refine x_iconst (v := (1)) (pc := 215) K dL_counts_215 (by decide) ?_
                    refine x_goto (pc := 216) K dL_counts_216 (tgt := 220) (by decide) ?_
                    exact kJ27 (1 : Int32) h
            refine x_if_ne (pc := 191) K dL_counts_191 (tgt := 198) (by decide) (fun c9 => ?_) (fun c9 => ?_)
            · have h := h.1 c9
              refine x_iconst (v := (0)) (pc := 198) K dL_counts_198 (by decide) ?_
              exact kJ25 (0 : Int32) h
            · have h := h.2 c9
              refine x_iconst (v := (1)) (pc := 194) K dL_counts_194 (by decide) ?_
              refine x_goto (pc := 195) K dL_counts_195 (tgt := 199) (by decide) ?_
              exact kJ25 (1 : Int32) h
          refine x_if_ne (pc := 181) K dL_counts_181 (tgt := 188) (by decide) (fun c9 => ?_) (fun c9 => ?_)
          · have h := h.1 c9
            refine x_iconst (v := (0)) (pc := 188) K dL_counts_188 (by decide) ?_
            exact kJ23 (0 : Int32) h
          · have h := h.2 c9
            refine x_iconst (v := (1)) (pc := 184) K dL_counts_184 (by decide) ?_
            refine x_goto (pc := 185) K dL_counts_185 (tgt := 189) (by decide) ?_
            exact kJ23 (1 : Int32) h
  · refine x_iconst (v := (0)) (pc := 149) K dL_counts_149 (by decide) ?_
    refine x_widen (k := 2) (n := 12) (Nat.le_of_ble_eq_true rfl) (Nat.le_of_ble_eq_true rfl) ?_
    exact hX (0 : Int32) (trial_1, v36, v37, v38) _ _ h.2 h.1 dL_counts_150
