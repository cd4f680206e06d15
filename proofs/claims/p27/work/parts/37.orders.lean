abbrev rm_L_orders : Room := { frames := 27, cells := 0, slots := 0, locals := 880 }
def q_L_orders_L64 (u2 : Int32) (u6 : Int32) (worn : Nat → Int32) (nb : Nat → Int32) (P0 : Int32 → Prop) : Nat → Int32 → Int32 → Prop
  | 0, _, _ => False
  | n + 1, x8, x9 => (((10 : Int32) ≤ x9 → P0 x8) ∧ (¬ (10 : Int32) ≤ x9 → xj1 (fun (v10 : Int32) => ((v10 = (0 : Int32) → xl (x8 ||| (0 : Int32)) (fun y11 => q_L_orders_L64 u2 u6 worn nb P0 n y11 (x9 + (1 : Int32)))) ∧ (¬ v10 = (0 : Int32) → xin u6 10 = true ∧ ((¬ (((nb u6.toNatClampNeg) >>> (x9 &&& 31)) &&& (1 : Int32)) = (1 : Int32) → xl (x8 ||| (0 : Int32)) (fun y12 => q_L_orders_L64 u2 u6 worn nb P0 n y12 (x9 + (1 : Int32)))) ∧ ((((nb u6.toNatClampNeg) >>> (x9 &&& 31)) &&& (1 : Int32)) = (1 : Int32) → q0_L_tintOf x9 worn (fun (r13 : Int32) => xl (x8 ||| ((1 : Int32) <<< (r13 &&& 31))) (fun y14 => q_L_orders_L64 u2 u6 worn nb P0 n y14 (x9 + (1 : Int32))))))))) (fun (J9 : Int32 → Prop) => ((u2 = (0 : Int32) → ((u6 ≤ x9 → J9 (0 : Int32)) ∧ (¬ u6 ≤ x9 → J9 (1 : Int32)))) ∧ (¬ u2 = (0 : Int32) → xin x9 10 = true ∧ q_L_many (nb x9.toNatClampNeg) (fun (r15 : Int32) => xin u6 10 = true ∧ q_L_many (nb u6.toNatClampNeg) (fun (r16 : Int32) => xj0 (J9 (1 : Int32)) (fun (J17 : Prop) => ((r16 < r15 → J17) ∧ (¬ r16 < r15 → xin x9 10 = true ∧ q_L_many (nb x9.toNatClampNeg) (fun (r18 : Int32) => xin u6 10 = true ∧ q_L_many (nb u6.toNatClampNeg) (fun (r19 : Int32) => xj0 (J9 (0 : Int32)) (fun (J20 : Prop) => ((¬ r18 = r19 → J20) ∧ (r18 = r19 → ((u6 ≤ x9 → J20) ∧ (¬ u6 ≤ x9 → J17)))))))))))))))))
def q_L_orders_L18 (u2 : Int32) (land : Nat → Int64) (worn : Nat → Int32) (nb : Nat → Int32) (P0 : Int32 → Prop) (P1 : Prop) : Nat → Int32 → Int32 → Prop
  | 0, _, _ => False
  | n + 1, x5, x6 => (((10 : Int32) ≤ x6 → P0 x5) ∧ (¬ (10 : Int32) ≤ x6 → q0_L_area x6 land (fun (r5 : Int32) => ((r5 ≤ (0 : Int32) → q_L_orders_L18 u2 land worn nb P0 P1 n x5 (x6 + (1 : Int32))) ∧ (¬ r5 ≤ (0 : Int32) → q0_L_tintOf x6 worn (fun (r6 : Int32) => xj1 (fun (v8 : Int32) => (∃ n21 : Nat, q_L_orders_L64 u2 x6 worn nb (fun (v22 : Int32) => ((r6 < (1 : Int32) → P1) ∧ (¬ r6 < (1 : Int32) → ((((v22 >>> (r6 &&& 31)) &&& (1 : Int32)) = (1 : Int32) → P1) ∧ (¬ ((v22 >>> (r6 &&& 31)) &&& (1 : Int32)) = (1 : Int32) → (((v22 &&& (((1 : Int32) <<< (r6 &&& 31)) - (2 : Int32))) = (((1 : Int32) <<< (r6 &&& 31)) - (2 : Int32)) → q_L_orders_L18 u2 land worn nb P0 P1 n v8 (x6 + (1 : Int32))) ∧ (¬ (v22 &&& (((1 : Int32) <<< (r6 &&& 31)) - (2 : Int32))) = (((1 : Int32) <<< (r6 &&& 31)) - (2 : Int32)) → P1))))))) n21 (0 : Int32) (0 : Int32))) (fun (J7 : Int32 → Prop) => ((r6 ≤ x5 → J7 x5) ∧ (¬ r6 ≤ x5 → J7 r6)))))))))
def q_L_orders_L270 (u3 : Int32) (land : Nat → Int64) (worn : Nat → Int32) (P0 : Int32 → Int32 → Prop) : Nat → Int32 → Int32 → Int32 → Prop
  | 0, _, _, _ => False
  | n + 1, x6, x7, x8 => (((10 : Int32) ≤ x8 → P0 x6 x7) ∧ (¬ (10 : Int32) ≤ x8 → q0_L_area x8 land (fun (r29 : Int32) => ((r29 ≤ (0 : Int32) → q_L_orders_L270 u3 land worn P0 n x6 x7 (x8 + (1 : Int32))) ∧ (¬ r29 ≤ (0 : Int32) → q0_L_tintOf x8 worn (fun (r30 : Int32) => xj1 (fun (v32 : Int32) => ((r30 ≤ x7 → q_L_orders_L270 u3 land worn P0 n v32 x7 (x8 + (1 : Int32))) ∧ (¬ r30 ≤ x7 → q_L_orders_L270 u3 land worn P0 n v32 r30 (x8 + (1 : Int32))))) (fun (J31 : Int32 → Prop) => xj0 (J31 (0 : Int32)) (fun (J33 : Prop) => ((x6 = (0 : Int32) → J33) ∧ (¬ x6 = (0 : Int32) → (((x7 + (1 : Int32)) < r30 → J33) ∧ (¬ (x7 + (1 : Int32)) < r30 → ((u3 < r30 → J33) ∧ (¬ u3 < r30 → J31 (1 : Int32)))))))))))))))
def q_L_orders (p2 : Int32) (land : Nat → Int64) (there : Int32) (near : Nat → Int32) (worn : Nat → Int32) (trial : Nat → Int32) (nb : Nat → Int32) (P : Int32 → (Nat → Int32) → (Nat → Int32) → Prop) : Prop := q_X0_fewestTints there near trial (fun (r2 : Int32) (trial_1 : Nat → Int32) => q_X0_tintInOrder p2 there near worn (fun (r4 : Int32) (worn_3 : Nat → Int32) => (∃ n23 : Nat, q_L_orders_L18 p2 land worn_3 nb (fun (v24 : Int32) => xj3 (fun (v26 : Int32) (v27 : Nat → Int32) (v28 : Nat → Int32) => (∃ n34 : Nat, q_L_orders_L270 r2 land v27 (fun (v35 : Int32) (v36 : Int32) => ((v35 = (0 : Int32) → (xbool (0 : Int32) ∧ P (0 : Int32) v27 v28)) ∧ (¬ v35 = (0 : Int32) → ((¬ v36 = r2 → (xbool (0 : Int32) ∧ P (0 : Int32) v27 v28)) ∧ (v36 = r2 → (xbool (1 : Int32) ∧ P (1 : Int32) v27 v28)))))) n34 v26 (0 : Int32) (0 : Int32))) (fun (J25 : Int32 → (Nat → Int32) → (Nat → Int32) → Prop) => xj2 (fun (v38 : Nat → Int32) (v39 : Nat → Int32) => J25 (0 : Int32) v38 v39) (fun (J37 : (Nat → Int32) → (Nat → Int32) → Prop) => ((¬ r4 = v24 → J37 worn_3 trial_1) ∧ (r4 = v24 → ((r4 < r2 → J37 worn_3 trial_1) ∧ (¬ r4 < r2 → q_X0_isTinted there near worn_3 (fun (r40 : Int32) => ((r40 = (0 : Int32) → J37 worn_3 trial_1) ∧ (¬ r40 = (0 : Int32) → q_X0_tintWithFewest there near worn_3 trial_1 (fun (r43 : Int32) (worn_41 : Nat → Int32) (trial_42 : Nat → Int32) => ((¬ r43 = r2 → J37 worn_41 trial_42) ∧ (r43 = r2 → q_X0_isTinted there near worn_41 (fun (r44 : Int32) => ((r44 = (0 : Int32) → J37 worn_41 trial_42) ∧ (¬ r44 = (0 : Int32) → J25 (1 : Int32) worn_41 trial_42)))))))))))))))) ((xbool (0 : Int32) ∧ P (0 : Int32) worn_3 trial_1)) n23 (0 : Int32) (0 : Int32))))
set_option maxHeartbeats 4000000 in
set_option maxRecDepth 100000 in
theorem w_L_orders_L64 {X : xC} {l : Launch} {D : va_G} {cI cJ cZ cA : ClassId} {V : Nat → Nat} {a_nb : Nat} (K : xk X l rm_L_orders D vwCl (xtys cI cJ cZ cA) cL_orders RL wsL_orders 11) (u2 : Int32) (u3 : Int32) (u4 : Int32) (u5 : Int32) (u6 : Int32) (u7 : Int32) (land : Nat → Int64) (there : Int32) (near : Nat → Int32) (worn : Nat → Int32) (trial : Nat → Int32) (fits : Nat → Int32) (ways : Nat → Int64) (joined : Nat → Nat → Int32) (nb : Nat → Int32) (P0 : Int32 → Prop) : ∀ (n : Nat) (x8 : Int32) (x9 : Int32), q_L_orders_L64 u2 u6 worn nb P0 n x8 x9 → (∀ (z0 : Int32), P0 z0 → xw X 0 0 179 [(0, .ref (V 0)), (1, .ref a_nb), (2, .int u2), (3, .int u3), (4, .int u4), (5, .int u5), (6, .int u6), (7, .int u7), (8, .int z0)] [] ((wX0J cI cJ cZ cA V land there near worn trial fits ways joined) ++ [(a_nb, .inl (cI, 10, .inl nb))])) → xw X 0 0 64 [(0, .ref (V 0)), (1, .ref a_nb), (2, .int u2), (3, .int u3), (4, .int u4), (5, .int u5), (6, .int u6), (7, .int u7), (8, .int x8), (9, .int x9)] [] ((wX0J cI cJ cZ cA V land there near worn trial fits ways joined) ++ [(a_nb, .inl (cI, 10, .inl nb))]) := by
  intro n
  induction n with
  | zero =>
    intro x8 x9 h
    rw [q_L_orders_L64] at h
    exact h.elim
  | succ n ih =>
    intro x8 x9 h k0
    rw [q_L_orders_L64] at h
    refine x_iload (pc := 64) K dL_orders_64 9 rfl ?_
    refine x_bipush (v := (10)) (pc := 66) K dL_orders_66 (by decide) ?_
    refine x_icmp_ge (pc := 68) K dL_orders_68 (tgt := 179) (by decide) (fun c9 => ?_) (fun c9 => ?_)
    · have h := h.1 c9
      refine x_keep [true, true, true, true, true, true, true, true, true, false] rfl ?_
      exact k0 x8 h
    · have h := h.2 c9
      refine x_iload_n (pc := 71) K dL_orders_71 2 rfl rfl ?_
      obtain ⟨J9, hJ9, h⟩ := xj1_o h
      have kJ9 : ∀ (v10 : Int32), J9 v10 → xw X 0 0 136 [(0, .ref (V 0)), (1, .ref a_nb), (2, .int u2), (3, .int u3), (4, .int u4), (5, .int u5), (6, .int u6), (7, .int u7), (8, .int x8), (9, .int x9)] [.int v10] ((wX0J cI cJ cZ cA V land there near worn trial fits ways joined) ++ [(a_nb, .inl (cI, 10, .inl nb))]) := by
        intro v10 hj
        have h := hJ9 v10 hj
        refine x_istore (lv' := [(0, .ref (V 0)), (1, .ref a_nb), (2, .int u2), (3, .int u3), (4, .int u4), (5, .int u5), (6, .int u6), (7, .int u7), (8, .int x8), (9, .int x9), (10, .int v10)]) (pc := 136) K dL_orders_136 (by decide) rfl ?_
        refine x_iload (pc := 138) K dL_orders_138 8 rfl ?_
        refine x_iload (pc := 140) K dL_orders_140 10 rfl ?_
        refine x_if_eq (pc := 142) K dL_orders_142 (tgt := 169) (by decide) (fun c9 => ?_) (fun c9 => ?_)
        · have h := h.1 c9
          refine x_keep [true, true, true, true, true, true, true, true, false, true, false] rfl ?_
          refine x_iconst (v := (0)) (pc := 169) K dL_orders_169 (by decide) ?_
          refine x_ior (pc := 170) K dL_orders_170 ?_
          obtain ⟨y11, ey11, h⟩ := xl_o h
          refine x_topi ey11 ?_
          clear ey11
          refine x_istore (lv' := [(0, .ref (V 0)), (1, .ref a_nb), (2, .int u2), (3, .int u3), (4, .int u4), (5, .int u5), (6, .int u6), (7, .int u7), (8, .int y11), (9, .int x9)]) (pc := 171) K dL_orders_171 (by decide) rfl ?_
          refine x_iinc (v := x9 + (1 : Int32)) (lv' := [(0, .ref (V 0)), (1, .ref a_nb), (2, .int u2), (3, .int u3), (4, .int u4), (5, .int u5), (6, .int u6), (7, .int u7), (8, .int y11), (9, .int (x9 + (1 : Int32)))]) (pc := 173) K dL_orders_173 (k := 9) rfl rfl (by decide) rfl ?_
          refine x_goto (pc := 176) K dL_orders_176 (tgt := 64) (by decide) ?_
          exact ih y11 (x9 + (1 : Int32)) h k0
        · have h := h.2 c9
          refine x_keep [true, true, true, true, true, true, true, true, false, true, false] rfl ?_
          refine x_aload_n (pc := 145) K dL_orders_145 1 rfl rfl ?_
          refine x_iload (pc := 146) K dL_orders_146 6 rfl ?_
          have g9 := h.1
          replace h := h.2
          refine x_iald (pc := 148) K 18 0 rfl rfl g9 dL_orders_148 ?_
          clear g9
          refine x_iload (pc := 149) K dL_orders_149 8 rfl ?_
          refine x_ishr (pc := 151) K dL_orders_151 ?_
          refine x_iconst (v := (1)) (pc := 152) K dL_orders_152 (by decide) ?_
          refine x_iand (pc := 153) K dL_orders_153 ?_
          refine x_iconst (v := (1)) (pc := 154) K dL_orders_154 (by decide) ?_
          refine x_icmp_ne (pc := 155) K dL_orders_155 (tgt := 169) (by decide) (fun c9 => ?_) (fun c9 => ?_)
          · have h := h.1 c9
            refine x_iconst (v := (0)) (pc := 169) K dL_orders_169 (by decide) ?_
            refine x_ior (pc := 170) K dL_orders_170 ?_
            obtain ⟨y12, ey12, h⟩ := xl_o h
            refine x_topi ey12 ?_
            clear ey12
            refine x_istore (lv' := [(0, .ref (V 0)), (1, .ref a_nb), (2, .int u2), (3, .int u3), (4, .int u4), (5, .int u5), (6, .int u6), (7, .int u7), (8, .int y12), (9, .int x9)]) (pc := 171) K dL_orders_171 (by decide) rfl ?_
            refine x_iinc (v := x9 + (1 : Int32)) (lv' := [(0, .ref (V 0)), (1, .ref a_nb), (2, .int u2), (3, .int u3), (4, .int u4), (5, .int u5), (6, .int u6), (7, .int u7), (8, .int y12), (9, .int (x9 + (1 : Int32)))]) (pc := 173) K dL_orders_173 (k := 9) rfl rfl (by decide) rfl ?_
            refine x_goto (pc := 176) K dL_orders_176 (tgt := 64) (by decide) ?_
            exact ih y12 (x9 + (1 : Int32)) h k0
          · have h := h.2 c9
            refine x_iconst (v := (1)) (pc := 158) K dL_orders_158 (by decide) ?_
            refine x_aload_n (pc := 159) K dL_orders_159 0 rfl rfl ?_
            refine x_iload (pc := 160) K dL_orders_160 8 rfl ?_
            refine x_wcallSi (pc := 162) (n := 2) K (c0_L_tintOf l D cI cJ cZ cA V x9 land there near worn trial fits ways joined _ h) rfl rfl gL_orders_L_tintOf rfl (by decide +kernel) ⟨Nat.le_of_ble_eq_true rfl, Nat.le_of_ble_eq_true rfl⟩ rfl (av := [.ref (V 0), .int x9]) rfl (Nat.le_of_ble_eq_true rfl) [0, 1, 2, 3, 4, 5, 6, 7, 8, 9, 10, 11, 12, 13, 14, 15, 16, 17] [18] (wr := [(a_nb, .inl (cI, 10, .inl nb))]) rfl rfl rfl rfl (by decide) dL_orders_162 ⟨Nat.le_of_ble_eq_true rfl, Nat.le_of_ble_eq_true rfl⟩ (fun r13 u9 h => ?_)
            refine x_wsub (ws' := ((wX0J cI cJ cZ cA V land there near worn trial fits ways joined) ++ [(a_nb, .inl (cI, 10, .inl nb))])) [1, 2, 3, 4, 5, 6, 7, 8, 9, 10, 11, 12, 13, 14, 15, 16, 17, 18, 0] rfl rfl ?_
            refine x_ishl (pc := 165) K dL_orders_165 ?_
            refine x_goto (pc := 166) K dL_orders_166 (tgt := 170) (by decide) ?_
            refine x_ior (pc := 170) K dL_orders_170 ?_
            obtain ⟨y14, ey14, h⟩ := xl_o h
            refine x_topi ey14 ?_
            clear ey14
            refine x_istore (lv' := [(0, .ref (V 0)), (1, .ref a_nb), (2, .int u2), (3, .int u3), (4, .int u4), (5, .int u5), (6, .int u6), (7, .int u7), (8, .int y14), (9, .int x9)]) (pc := 171) K dL_orders_171 (by decide) rfl ?_
            refine x_iinc (v := x9 + (1 : Int32)) (lv' := [(0, .ref (V 0)), (1, .ref a_nb), (2, .int u2), (3, .int u3), (4, .int u4), (5, .int u5), (6, .int u6), (7, .int u7), (8, .int y14), (9, .int (x9 + (1 : Int32)))]) (pc := 173) K dL_orders_173 (k := 9) rfl rfl (by decide) rfl ?_
            refine x_goto (pc := 176) K dL_orders_176 (tgt := 64) (by decide) ?_
            exact ih y14 (x9 + (1 : Int32)) h k0
      refine x_if_eq (pc := 72) K dL_orders_72 (tgt := 124) (by decide) (fun c9 => ?_) (fun c9 => ?_)
      · have h := h.1 c9
        refine x_iload (pc := 124) K dL_orders_124 9 rfl ?_
        refine x_iload (pc := 126) K dL_orders_126 6 rfl ?_
        refine x_icmp_ge (pc := 128) K dL_orders_128 (tgt := 135) (by decide) (fun c9 => ?_) (fun c9 => ?_)
        · have h := h.1 c9
          refine x_iconst (v := (0)) (pc := 135) K dL_orders_135 (by decide) ?_
          exact kJ9 (0 : Int32) h
        · have h := h.2 c9
          refine x_iconst (v := (1)) (pc := 131) K dL_orders_131 (by decide) ?_
          refine x_goto (pc := 132) K dL_orders_132 (tgt := 136) (by decide) ?_
          exact kJ9 (1 : Int32) h
      · have h := h.2 c9
        refine x_aload_n (pc := 75) K dL_orders_75 1 rfl rfl ?_
        refine x_iload (pc := 76) K dL_orders_76 9 rfl ?_
        have g9 := h.1
        replace h := h.2
        refine x_iald (pc := 78) K 18 0 rfl rfl g9 dL_orders_78 ?_
        clear g9
        refine x_pcallSi (pc := 79) (n := 1) K (c_L_many l D cI cJ cZ cA (nb x9.toNatClampNeg) _ h) rfl rfl gL_orders_L_many rfl (by decide +kernel) ⟨Nat.le_of_ble_eq_true rfl, Nat.le_of_ble_eq_true rfl⟩ rfl (av := [.int (nb x9.toNatClampNeg)]) rfl (Nat.le_of_ble_eq_true rfl) dL_orders_79 ⟨Nat.le_of_ble_eq_true rfl, Nat.le_of_ble_eq_true rfl⟩ (fun r15 u9 h => ?_)
        refine x_aload_n (pc := 82) K dL_orders_82 1 rfl rfl ?_
        refine x_iload (pc := 83) K dL_orders_83 6 rfl ?_
        have g9 := h.1
        replace h := h.2
        refine x_iald (pc := 85) K 18 0 rfl rfl g9 dL_orders_85 ?_
        clear g9
        refine x_pcallSi (pc := 86) (n := 1) K (c_L_many l D cI cJ cZ cA (nb u6.toNatClampNeg) _ h) rfl rfl gL_orders_L_many rfl (by decide +kernel) ⟨Nat.le_of_ble_eq_true rfl, Nat.le_of_ble_eq_true rfl⟩ rfl (av := [.int (nb u6.toNatClampNeg)]) rfl (Nat.le_of_ble_eq_true rfl) dL_orders_86 ⟨Nat.le_of_ble_eq_true rfl, Nat.le_of_ble_eq_true rfl⟩ (fun r16 u9 h => ?_)
        obtain ⟨J17, hJ17, h⟩ := xj0_o h
        have kJ17 : J17 → xw X 0 0 116 [(0, .ref (V 0)), (1, .ref a_nb), (2, .int u2), (3, .int u3), (4, .int u4), (5, .int u5), (6, .int u6), (7, .int u7), (8, .int x8), (9, .int x9)] [] ((wX0J cI cJ cZ cA V land there near worn trial fits ways joined) ++ [(a_nb, .inl (cI, 10, .inl nb))]) := by
          intro  hj
          have h := hJ17  hj
          refine x_iconst (v := (1)) (pc := 116) K dL_orders_116 (by decide) ?_
          refine x_goto (pc := 117) K dL_orders_117 (tgt := 136) (by decide) ?_
          exact kJ9 (1 : Int32) h
        refine x_icmp_gt (pc := 89) K dL_orders_89 (tgt := 116) (by decide) (fun c9 => ?_) (fun c9 => ?_)
        · have h := h.1 c9
          exact kJ17  h
        · have h := h.2 c9
          refine x_aload_n (pc := 92) K dL_orders_92 1 rfl rfl ?_
          refine x_iload (pc := 93) K dL_orders_93 9 rfl ?_
          have g9 := h.1
          replace h := h.2
          refine x_iald (pc := 95) K 18 0 rfl rfl g9 dL_orders_95 ?_
          clear g9
          refine x_pcallSi (pc := 96) (n := 1) K (c_L_many l D cI cJ cZ cA (nb x9.toNatClampNeg) _ h) rfl rfl gL_orders_L_many rfl (by decide +kernel) ⟨Nat.le_of_ble_eq_true rfl, Nat.le_of_ble_eq_true rfl⟩ rfl (av := [.int (nb x9.toNatClampNeg)]) rfl (Nat.le_of_ble_eq_true rfl) dL_orders_96 ⟨Nat.le_of_ble_eq_true rfl, Nat.le_of_ble_eq_true rfl⟩ (fun r18 u9 h => ?_)
          refine x_aload_n (pc := 99) K dL_orders_99 1 rfl rfl ?_
          refine x_iload (pc := 100) K dL_orders_100 6 rfl ?_
          have g9 := h.1
          replace h := h.2
          refine x_iald (pc := 102) K 18 0 rfl rfl g9 dL_orders_102 ?_
          clear g9
          refine x_pcallSi (pc := 103) (n := 1) K (c_L_many l D cI cJ cZ cA (nb u6.toNatClampNeg) _ h) rfl rfl gL_orders_L_many rfl (by decide +kernel) ⟨Nat.le_of_ble_eq_true rfl, Nat.le_of_ble_eq_true rfl⟩ rfl (av := [.int (nb u6.toNatClampNeg)]) rfl (Nat.le_of_ble_eq_true rfl) dL_orders_103 ⟨Nat.le_of_ble_eq_true rfl, Nat.le_of_ble_eq_true rfl⟩ (fun r19 u9 h => ?_)
          obtain ⟨J20, hJ20, h⟩ := xj0_o h
          have kJ20 : J20 → xw X 0 0 120 [(0, .ref (V 0)), (1, .ref a_nb), (2, .int u2), (3, .int u3), (4, .int u4), (5, .int u5), (6, .int u6), (7, .int u7), (8, .int x8), (9, .int x9)] [] ((wX0J cI cJ cZ cA V land there near worn trial fits ways joined) ++ [(a_nb, .inl (cI, 10, .inl nb))]) := by
            intro  hj
            have h := hJ20  hj
            refine x_iconst (v := (0)) (pc := 120) K dL_orders_120 (by decide) ?_
            refine x_goto (pc := 121) K dL_orders_121 (tgt := 136) (by decide) ?_
            exact kJ9 (0 : Int32) h
          refine x_icmp_ne (pc := 106) K dL_orders_106 (tgt := 120) (by decide) (fun c9 => ?_) (fun c9 => ?_)
          · have h := h.1 c9
            exact kJ20  h
          · have h := h.2 c9
            refine x_iload (pc := 109) K dL_orders_109 9 rfl ?_
            refine x_iload (pc := 111) K dL_orders_111 6 rfl ?_
            refine x_icmp_ge (pc := 113) K dL_orders_113 (tgt := 120) (by decide) (fun c9 => ?_) (fun c9 => ?_)
            · have h := h.1 c9
              exact kJ20  h
            · have h := h.2 c9
              exact kJ17  h
set_option maxHeartbeats 4000000 in
set_option maxRecDepth 100000 in
theorem w_L_orders_L18 {X : xC} {l : Launch} {D : va_G} {cI cJ cZ cA : ClassId} {V : Nat → Nat} {a_nb : Nat} (K : xk X l rm_L_orders D vwCl (xtys cI cJ cZ cA) cL_orders RL wsL_orders 11) (u2 : Int32) (u3 : Int32) (u4 : Int32) (land : Nat → Int64) (there : Int32) (near : Nat → Int32) (worn : Nat → Int32) (trial : Nat → Int32) (fits : Nat → Int32) (ways : Nat → Int64) (joined : Nat → Nat → Int32) (nb : Nat → Int32) (P0 : Int32 → Prop) (P1 : Prop) : ∀ (n : Nat) (x5 : Int32) (x6 : Int32), q_L_orders_L18 u2 land worn nb P0 P1 n x5 x6 → (∀ (z0 : Int32), P0 z0 → xw X 0 0 222 [(0, .ref (V 0)), (3, .int u3), (4, .int u4), (5, .int z0)] [] ((wX0J cI cJ cZ cA V land there near worn trial fits ways joined) ++ [(a_nb, .inl (cI, 10, .inl nb))])) → (P1 → xw X 0 0 214 [] [] ((wX0J cI cJ cZ cA V land there near worn trial fits ways joined) ++ [(a_nb, .inl (cI, 10, .inl nb))])) → xw X 0 0 18 [(0, .ref (V 0)), (1, .ref a_nb), (2, .int u2), (3, .int u3), (4, .int u4), (5, .int x5), (6, .int x6)] [] ((wX0J cI cJ cZ cA V land there near worn trial fits ways joined) ++ [(a_nb, .inl (cI, 10, .inl nb))]) := by
  intro n
  induction n with
  | zero =>
    intro x5 x6 h
    rw [q_L_orders_L18] at h
    exact h.elim
  | succ n ih =>
    intro x5 x6 h k0 k1
    rw [q_L_orders_L18] at h
    refine x_iload (pc := 18) K dL_orders_18 6 rfl ?_
    refine x_bipush (v := (10)) (pc := 20) K dL_orders_20 (by decide) ?_
    refine x_icmp_ge (pc := 22) K dL_orders_22 (tgt := 222) (by decide) (fun c9 => ?_) (fun c9 => ?_)
    · have h := h.1 c9
      refine x_keep [true, false, false, true, true, true, false] rfl ?_
      exact k0 x5 h
    · have h := h.2 c9
      refine x_aload_n (pc := 25) K dL_orders_25 0 rfl rfl ?_
      refine x_iload (pc := 26) K dL_orders_26 6 rfl ?_
      refine x_wcallSi (pc := 28) (n := 2) K (c0_L_area l D cI cJ cZ cA V x6 land there near worn trial fits ways joined _ h) rfl rfl gL_orders_L_area rfl (by decide +kernel) ⟨Nat.le_of_ble_eq_true rfl, Nat.le_of_ble_eq_true rfl⟩ rfl (av := [.ref (V 0), .int x6]) rfl (Nat.le_of_ble_eq_true rfl) [0, 1, 2, 3, 4, 5, 6, 7, 8, 9, 10, 11, 12, 13, 14, 15, 16, 17] [18] (wr := [(a_nb, .inl (cI, 10, .inl nb))]) rfl rfl rfl rfl (by decide) dL_orders_28 ⟨Nat.le_of_ble_eq_true rfl, Nat.le_of_ble_eq_true rfl⟩ (fun r5 u9 h => ?_)
      refine x_wsub (ws' := ((wX0J cI cJ cZ cA V land there near worn trial fits ways joined) ++ [(a_nb, .inl (cI, 10, .inl nb))])) [1, 2, 3, 4, 5, 6, 7, 8, 9, 10, 11, 12, 13, 14, 15, 16, 17, 18, 0] rfl rfl ?_
      refine x_if_le (pc := 31) K dL_orders_31 (tgt := 216) (by decide) (fun c9 => ?_) (fun c9 => ?_)
      · have h := h.1 c9
        refine x_iinc (v := x6 + (1 : Int32)) (lv' := [(0, .ref (V 0)), (1, .ref a_nb), (2, .int u2), (3, .int u3), (4, .int u4), (5, .int x5), (6, .int (x6 + (1 : Int32)))]) (pc := 216) K dL_orders_216 (k := 6) rfl rfl (by decide) rfl ?_
        refine x_goto (pc := 219) K dL_orders_219 (tgt := 18) (by decide) ?_
        exact ih x5 (x6 + (1 : Int32)) h k0 k1
      · have h := h.2 c9
        refine x_aload_n (pc := 34) K dL_orders_34 0 rfl rfl ?_
        refine x_iload (pc := 35) K dL_orders_35 6 rfl ?_
        refine x_wcallSi (pc := 37) (n := 2) K (c0_L_tintOf l D cI cJ cZ cA V x6 land there near worn trial fits ways joined _ h) rfl rfl gL_orders_L_tintOf rfl (by decide +kernel) ⟨Nat.le_of_ble_eq_true rfl, Nat.le_of_ble_eq_true rfl⟩ rfl (av := [.ref (V 0), .int x6]) rfl (Nat.le_of_ble_eq_true rfl) [0, 1, 2, 3, 4, 5, 6, 7, 8, 9, 10, 11, 12, 13, 14, 15, 16, 17] [18] (wr := [(a_nb, .inl (cI, 10, .inl nb))]) rfl rfl rfl rfl (by decide) dL_orders_37 ⟨Nat.le_of_ble_eq_true rfl, Nat.le_of_ble_eq_true rfl⟩ (fun r6 u9 h => ?_)
        refine x_wsub (ws' := ((wX0J cI cJ cZ cA V land there near worn trial fits ways joined) ++ [(a_nb, .inl (cI, 10, .inl nb))])) [1, 2, 3, 4, 5, 6, 7, 8, 9, 10, 11, 12, 13, 14, 15, 16, 17, 18, 0] rfl rfl ?_
        refine x_istore (lv' := [(0, .ref (V 0)), (1, .ref a_nb), (2, .int u2), (3, .int u3), (4, .int u4), (5, .int x5), (6, .int x6), (7, .int r6)]) (pc := 40) K dL_orders_40 (by decide) rfl ?_
        refine x_iload (pc := 42) K dL_orders_42 7 rfl ?_
        refine x_iload (pc := 44) K dL_orders_44 5 rfl ?_
        obtain ⟨J7, hJ7, h⟩ := xj1_o h
        have kJ7 : ∀ (v8 : Int32), J7 v8 → xw X 0 0 56 [(0, .ref (V 0)), (1, .ref a_nb), (2, .int u2), (3, .int u3), (4, .int u4), (6, .int x6), (7, .int r6)] [.int v8] ((wX0J cI cJ cZ cA V land there near worn trial fits ways joined) ++ [(a_nb, .inl (cI, 10, .inl nb))]) := by
          intro v8 hj
          have h := hJ7 v8 hj
          refine x_istore (lv' := [(0, .ref (V 0)), (1, .ref a_nb), (2, .int u2), (3, .int u3), (4, .int u4), (5, .int v8), (6, .int x6), (7, .int r6)]) (pc := 56) K dL_orders_56 (by decide) rfl ?_
          refine x_iconst (v := (0)) (pc := 58) K dL_orders_58 (by decide) ?_
          refine x_istore (lv' := [(0, .ref (V 0)), (1, .ref a_nb), (2, .int u2), (3, .int u3), (4, .int u4), (5, .int v8), (6, .int x6), (7, .int r6), (8, .int (0 : Int32))]) (pc := 59) K dL_orders_59 (by decide) rfl ?_
          refine x_iconst (v := (0)) (pc := 61) K dL_orders_61 (by decide) ?_
          refine x_istore (lv' := [(0, .ref (V 0)), (1, .ref a_nb), (2, .int u2), (3, .int u3), (4, .int u4), (5, .int v8), (6, .int x6), (7, .int r6), (8, .int (0 : Int32)), (9, .int (0 : Int32))]) (pc := 62) K dL_orders_62 (by decide) rfl ?_
          obtain ⟨n21, h⟩ := h
          refine w_L_orders_L64 K u2 u3 u4 v8 x6 r6 land there near worn trial fits ways joined nb _ n21 (0 : Int32) (0 : Int32) h (fun v22 h => ?_)
          refine x_iload (pc := 179) K dL_orders_179 7 rfl ?_
          refine x_iconst (v := (1)) (pc := 181) K dL_orders_181 (by decide) ?_
          refine x_icmp_lt (pc := 182) K dL_orders_182 (tgt := 214) (by decide) (fun c9 => ?_) (fun c9 => ?_)
          · have h := h.1 c9
            refine x_keep [false, false, false, false, false, false, false, false, false] rfl ?_
            exact k1  h
          · have h := h.2 c9
            refine x_iload (pc := 185) K dL_orders_185 8 rfl ?_
            refine x_iload (pc := 187) K dL_orders_187 7 rfl ?_
            refine x_ishr (pc := 189) K dL_orders_189 ?_
            refine x_iconst (v := (1)) (pc := 190) K dL_orders_190 (by decide) ?_
            refine x_iand (pc := 191) K dL_orders_191 ?_
            refine x_iconst (v := (1)) (pc := 192) K dL_orders_192 (by decide) ?_
            refine x_icmp_eq (pc := 193) K dL_orders_193 (tgt := 214) (by decide) (fun c9 => ?_) (fun c9 => ?_)
            · have h := h.1 c9
              refine x_keep [false, false, false, false, false, false, false, false, false] rfl ?_
              exact k1  h
            · have h := h.2 c9
              refine x_iload (pc := 196) K dL_orders_196 8 rfl ?_
              refine x_iconst (v := (1)) (pc := 198) K dL_orders_198 (by decide) ?_
              refine x_iload (pc := 199) K dL_orders_199 7 rfl ?_
              refine x_ishl (pc := 201) K dL_orders_201 ?_
              refine x_iconst (v := (2)) (pc := 202) K dL_orders_202 (by decide) ?_
              refine x_isub (pc := 203) K dL_orders_203 ?_
              refine x_iand (pc := 204) K dL_orders_204 ?_
              refine x_iconst (v := (1)) (pc := 205) K dL_orders_205 (by decide) ?_
              refine x_iload (pc := 206) K dL_orders_206 7 rfl ?_
              refine x_ishl (pc := 208) K dL_orders_208 ?_
              refine x_iconst (v := (2)) (pc := 209) K dL_orders_209 (by decide) ?_
              refine x_isub (pc := 210) K dL_orders_210 ?_
              refine x_icmp_eq (pc := 211) K dL_orders_211 (tgt := 216) (by decide) (fun c9 => ?_) (fun c9 => ?_)
              · have h := h.1 c9
                refine x_keep [true, true, true, true, true, true, true, false, false] rfl ?_
                refine x_iinc (v := x6 + (1 : Int32)) (lv' := [(0, .ref (V 0)), (1, .ref a_nb), (2, .int u2), (3, .int u3), (4, .int u4), (5, .int v8), (6, .int (x6 + (1 : Int32)))]) (pc := 216) K dL_orders_216 (k := 6) rfl rfl (by decide) rfl ?_
                refine x_goto (pc := 219) K dL_orders_219 (tgt := 18) (by decide) ?_
                exact ih v8 (x6 + (1 : Int32)) h k0 k1
              · have h := h.2 c9
                refine x_keep [false, false, false, false, false, false, false, false, false] rfl ?_
                exact k1  h
        refine x_icmp_le (pc := 46) K dL_orders_46 (tgt := 54) (by decide) (fun c9 => ?_) (fun c9 => ?_)
        · have h := h.1 c9
          refine x_iload (pc := 54) K dL_orders_54 5 rfl ?_
          refine x_keep [true, true, true, true, true, false, true, true] rfl ?_
          exact kJ7 x5 h
        · have h := h.2 c9
          refine x_keep [true, true, true, true, true, false, true, true] rfl ?_
          refine x_iload (pc := 49) K dL_orders_49 6 rfl ?_
          refine x_goto (pc := 51) K dL_orders_51 (tgt := 56) (by decide) ?_
          exact kJ7 r6 h
set_option maxHeartbeats 4000000 in
set_option maxRecDepth 100000 in
theorem w_L_orders_L270 {X : xC} {l : Launch} {D : va_G} {cI cJ cZ cA : ClassId} {V : Nat → Nat} {a_nb : Nat} (K : xk X l rm_L_orders D vwCl (xtys cI cJ cZ cA) cL_orders RL wsL_orders 11) (u3 : Int32) (land : Nat → Int64) (there : Int32) (near : Nat → Int32) (worn : Nat → Int32) (trial : Nat → Int32) (fits : Nat → Int32) (ways : Nat → Int64) (joined : Nat → Nat → Int32) (nb : Nat → Int32) (P0 : Int32 → Int32 → Prop) : ∀ (n : Nat) (x6 : Int32) (x7 : Int32) (x8 : Int32), q_L_orders_L270 u3 land worn P0 n x6 x7 x8 → (∀ (z0 : Int32) (z1 : Int32), P0 z0 z1 → xw X 0 0 343 [(3, .int u3), (6, .int z0), (7, .int z1)] [] ((wX0J cI cJ cZ cA V land there near worn trial fits ways joined) ++ [(a_nb, .inl (cI, 10, .inl nb))])) → xw X 0 0 270 [(0, .ref (V 0)), (3, .int u3), (6, .int x6), (7, .int x7), (8, .int x8)] [] ((wX0J cI cJ cZ cA V land there near worn trial fits ways joined) ++ [(a_nb, .inl (cI, 10, .inl nb))]) := by
  intro n
  induction n with
  | zero =>
    intro x6 x7 x8 h
    rw [q_L_orders_L270] at h
    exact h.elim
  | succ n ih =>
    intro x6 x7 x8 h k0
    rw [q_L_orders_L270] at h
    refine x_iload (pc := 270) K dL_orders_270 4 rfl ?_
    refine x_bipush (v := (10)) (pc := 272) K dL_orders_272 (by decide) ?_
    refine x_icmp_ge (pc := 274) K dL_orders_274 (tgt := 343) (by decide) (fun c9 => ?_) (fun c9 => ?_)
    · have h := h.1 c9
      refine x_keep [false, true, true, true, false] rfl ?_
      exact k0 x6 x7 h
    · have h := h.2 c9
      refine x_aload_n (pc := 277) K dL_orders_277 0 rfl rfl ?_
      refine x_iload (pc := 278) K dL_orders_278 4 rfl ?_
      refine x_wcallSi (pc := 280) (n := 2) K (c0_L_area l D cI cJ cZ cA V x8 land there near worn trial fits ways joined _ h) rfl rfl gL_orders_L_area rfl (by decide +kernel) ⟨Nat.le_of_ble_eq_true rfl, Nat.le_of_ble_eq_true rfl⟩ rfl (av := [.ref (V 0), .int x8]) rfl (Nat.le_of_ble_eq_true rfl) [0, 1, 2, 3, 4, 5, 6, 7, 8, 9, 10, 11, 12, 13, 14, 15, 16, 17] [18] (wr := [(a_nb, .inl (cI, 10, .inl nb))]) rfl rfl rfl rfl (by decide) dL_orders_280 ⟨Nat.le_of_ble_eq_true rfl, Nat.le_of_ble_eq_true rfl⟩ (fun r29 u9 h => ?_)
      refine x_wsub (ws' := ((wX0J cI cJ cZ cA V land there near worn trial fits ways joined) ++ [(a_nb, .inl (cI, 10, .inl nb))])) [1, 2, 3, 4, 5, 6, 7, 8, 9, 10, 11, 12, 13, 14, 15, 16, 17, 18, 0] rfl rfl ?_
      refine x_if_le (pc := 283) K dL_orders_283 (tgt := 337) (by decide) (fun c9 => ?_) (fun c9 => ?_)
      · have h := h.1 c9
        refine x_iinc (v := x8 + (1 : Int32)) (lv' := [(0, .ref (V 0)), (3, .int u3), (6, .int x6), (7, .int x7), (8, .int (x8 + (1 : Int32)))]) (pc := 337) K dL_orders_337 (k := 4) rfl rfl (by decide) rfl ?_
        refine x_goto (pc := 340) K dL_orders_340 (tgt := 270) (by decide) ?_
        exact ih x6 x7 (x8 + (1 : Int32)) h k0
      · have h := h.2 c9
        refine x_aload_n (pc := 286) K dL_orders_286 0 rfl rfl ?_
        refine x_iload (pc := 287) K dL_orders_287 4 rfl ?_
        refine x_wcallSi (pc := 289) (n := 2) K (c0_L_tintOf l D cI cJ cZ cA V x8 land there near worn trial fits ways joined _ h) rfl rfl gL_orders_L_tintOf rfl (by decide +kernel) ⟨Nat.le_of_ble_eq_true rfl, Nat.le_of_ble_eq_true rfl⟩ rfl (av := [.ref (V 0), .int x8]) rfl (Nat.le_of_ble_eq_true rfl) [0, 1, 2, 3, 4, 5, 6, 7, 8, 9, 10, 11, 12, 13, 14, 15, 16, 17] [18] (wr := [(a_nb, .inl (cI, 10, .inl nb))]) rfl rfl rfl rfl (by decide) dL_orders_289 ⟨Nat.le_of_ble_eq_true rfl, Nat.le_of_ble_eq_true rfl⟩ (fun r30 u9 h => ?_)
        refine x_wsub (ws' := ((wX0J cI cJ cZ cA V land there near worn trial fits ways joined) ++ [(a_nb, .inl (cI, 10, .inl nb))])) [1, 2, 3, 4, 5, 6, 7, 8, 9, 10, 11, 12, 13, 14, 15, 16, 17, 18, 0] rfl rfl ?_
        refine x_istore (lv' := [(0, .ref (V 0)), (3, .int u3), (6, .int x6), (7, .int x7), (8, .int x8), (9, .int r30)]) (pc := 292) K dL_orders_292 (by decide) rfl ?_
        refine x_iload (pc := 294) K dL_orders_294 2 rfl ?_
        obtain ⟨J31, hJ31, h⟩ := xj1_o h
        have kJ31 : ∀ (v32 : Int32), J31 v32 → xw X 0 0 319 [(0, .ref (V 0)), (3, .int u3), (7, .int x7), (8, .int x8), (9, .int r30)] [.int v32] ((wX0J cI cJ cZ cA V land there near worn trial fits ways joined) ++ [(a_nb, .inl (cI, 10, .inl nb))]) := by
          intro v32 hj
          have h := hJ31 v32 hj
          refine x_istore (lv' := [(0, .ref (V 0)), (3, .int u3), (6, .int v32), (7, .int x7), (8, .int x8), (9, .int r30)]) (pc := 319) K dL_orders_319 (by decide) rfl ?_
          refine x_iload (pc := 321) K dL_orders_321 5 rfl ?_
          refine x_iload (pc := 323) K dL_orders_323 3 rfl ?_
          refine x_icmp_le (pc := 325) K dL_orders_325 (tgt := 333) (by decide) (fun c9 => ?_) (fun c9 => ?_)
          · have h := h.1 c9
            refine x_keep [true, true, true, true, true, false] rfl ?_
            refine x_iload (pc := 333) K dL_orders_333 3 rfl ?_
            refine x_keep [true, true, true, false, true] rfl ?_
            refine x_istore (lv' := [(0, .ref (V 0)), (3, .int u3), (6, .int v32), (7, .int x7), (8, .int x8)]) (pc := 335) K dL_orders_335 (by decide) rfl ?_
            refine x_iinc (v := x8 + (1 : Int32)) (lv' := [(0, .ref (V 0)), (3, .int u3), (6, .int v32), (7, .int x7), (8, .int (x8 + (1 : Int32)))]) (pc := 337) K dL_orders_337 (k := 4) rfl rfl (by decide) rfl ?_
            refine x_goto (pc := 340) K dL_orders_340 (tgt := 270) (by decide) ?_
            exact ih v32 x7 (x8 + (1 : Int32)) h k0
          · have h := h.2 c9
            refine x_keep [true, true, true, false, true, true] rfl ?_
            refine x_iload (pc := 328) K dL_orders_328 4 rfl ?_
            refine x_goto (pc := 330) K dL_orders_330 (tgt := 335) (by decide) ?_
            refine x_keep [true, true, true, true, false] rfl ?_
            refine x_istore (lv' := [(0, .ref (V 0)), (3, .int u3), (6, .int v32), (7, .int r30), (8, .int x8)]) (pc := 335) K dL_orders_335 (by decide) rfl ?_
            refine x_iinc (v := x8 + (1 : Int32)) (lv' := [(0, .ref (V 0)), (3, .int u3), (6, .int v32), (7, .int r30), (8, .int (x8 + (1 : Int32)))]) (pc := 337) K dL_orders_337 (k := 4) rfl rfl (by decide) rfl ?_
            refine x_goto (pc := 340) K dL_orders_340 (tgt := 270) (by decide) ?_
            exact ih v32 r30 (x8 + (1 : Int32)) h k0
        obtain ⟨J33, hJ33, h⟩ := xj0_o h
        have kJ33 : J33 → xw X 0 0 318 [(0, .ref (V 0)), (3, .int u3), (7, .int x7), (8, .int x8), (9, .int r30)] [] ((wX0J cI cJ cZ cA V land there near worn trial fits ways joined) ++ [(a_nb, .inl (cI, 10, .inl nb))]) := by
          intro  hj
          have h := hJ33  hj
          refine x_iconst (v := (0)) (pc := 318) K dL_orders_318 (by decide) ?_
          exact kJ31 (0 : Int32) h
        refine x_if_eq (pc := 296) K dL_orders_296 (tgt := 318) (by decide) (fun c9 => ?_) (fun c9 => ?_)
        · have h := h.1 c9
          refine x_keep [true, true, false, true, true, true] rfl ?_
          exact kJ33  h
        · have h := h.2 c9
          refine x_keep [true, true, false, true, true, true] rfl ?_
          refine x_iload (pc := 299) K dL_orders_299 4 rfl ?_
          refine x_iload (pc := 301) K dL_orders_301 2 rfl ?_
          refine x_iconst (v := (1)) (pc := 303) K dL_orders_303 (by decide) ?_
          refine x_iadd (pc := 304) K dL_orders_304 ?_
          refine x_icmp_gt (pc := 305) K dL_orders_305 (tgt := 318) (by decide) (fun c9 => ?_) (fun c9 => ?_)
          · have h := h.1 c9
            exact kJ33  h
          · have h := h.2 c9
            refine x_iload (pc := 308) K dL_orders_308 4 rfl ?_
            refine x_iload_n (pc := 310) K dL_orders_310 1 rfl rfl ?_
            refine x_icmp_gt (pc := 311) K dL_orders_311 (tgt := 318) (by decide) (fun c9 => ?_) (fun c9 => ?_)
            · have h := h.1 c9
              exact kJ33  h
            · have h := h.2 c9
              refine x_iconst (v := (1)) (pc := 314) K dL_orders_314 (by decide) ?_
              refine x_goto (pc := 315) K dL_orders_315 (tgt := 319) (by decide) ?_
              exact kJ31 (1 : Int32) h
set_option maxHeartbeats 4000000 in
set_option maxRecDepth 100000 in
theorem c_L_orders (l : Launch) (D : va_G) (cI cJ cZ cA : ClassId) (V : Nat → Nat) (a_nb : Nat) (p2 : Int32) (land : Nat → Int64) (there : Int32) (near : Nat → Int32) (worn : Nat → Int32) (trial : Nat → Int32) (fits : Nat → Int32) (ways : Nat → Int64) (joined : Nat → Nat → Int32) (nb : Nat → Int32) (P : Int32 → (Nat → Int32) → (Nat → Int32) → Prop) (h : q_L_orders p2 land there near worn trial nb P) : xMz l yL_orders wsL_orders rm_L_orders D vwCl (xtys cI cJ cZ cA) ((wX0J cI cJ cZ cA V land there near worn trial fits ways joined) ++ [(a_nb, .inl (cI, 10, .inl nb))]) [.ref (V 0), .ref a_nb, .int p2] (σ := (Nat → Int32) × (Nat → Int32)) (fun u => ((wX0J cI cJ cZ cA V land there near u.1 u.2 fits ways joined) ++ [(a_nb, .inl (cI, 10, .inl nb))])) (fun r u => P r u.1 u.2) := by
  refine xMz_of (cc := cL_orders) (maxL := 11) (by decide) rfl (Nat.le_of_ble_eq_true rfl) ?_
  intro X K hX
  have K : xk X l rm_L_orders D vwCl (xtys cI cJ cZ cA) cL_orders RL wsL_orders 11 := K
  unfold q_L_orders at h
  refine x_aload_n (pc := 0) K dL_orders_0 0 rfl rfl ?_
  refine x_callVi (pc := 1) (n := 0) K (c_X0_fewestTints l D cI cJ cZ cA V land there near worn trial fits ways _ h) rfl rfl gL_orders_X0_fewestTints rfl (by decide +kernel) ⟨Nat.le_of_ble_eq_true rfl, Nat.le_of_ble_eq_true rfl⟩ rfl (av := []) (b := V 0) (ci := 0) (q0 := 0) rfl rfl rfl (Nat.le_of_ble_eq_true rfl) [0, 1, 2, 3, 4, 5, 6] [7, 8, 9, 10, 11, 12, 13, 14, 15, 16, 17, 18] (wr := (wJ cI cA (V 7) (fun k => V (k + 8)) joined ++ [(a_nb, .inl (cI, 10, .inl nb))])) rfl rfl rfl rfl (by decide) dL_orders_1 ⟨Nat.le_of_ble_eq_true rfl, Nat.le_of_ble_eq_true rfl⟩ (fun r2 trial_1 h => ?_)
  refine x_wsub (ws' := ((wX0J cI cJ cZ cA V land there near worn trial_1 fits ways joined) ++ [(a_nb, .inl (cI, 10, .inl nb))])) [12, 13, 14, 15, 16, 17, 18, 0, 1, 2, 3, 4, 5, 6, 7, 8, 9, 10, 11] rfl rfl ?_
  refine x_istore_n (lv' := [(0, .ref (V 0)), (1, .ref a_nb), (2, .int p2), (3, .int r2)]) (pc := 4) K dL_orders_4 rfl (by decide) rfl ?_
  refine x_aload_n (pc := 5) K dL_orders_5 0 rfl rfl ?_
  refine x_iload_n (pc := 6) K dL_orders_6 2 rfl rfl ?_
  refine x_callVi (pc := 7) (n := 1) K (c_X0_tintInOrder l D cI cJ cZ cA V p2 land there near worn trial_1 fits ways _ h) rfl rfl gL_orders_X0_tintInOrder rfl (by decide +kernel) ⟨Nat.le_of_ble_eq_true rfl, Nat.le_of_ble_eq_true rfl⟩ rfl (av := [.int p2]) (b := V 0) (ci := 0) (q0 := 0) rfl rfl rfl (Nat.le_of_ble_eq_true rfl) [0, 1, 2, 3, 4, 5, 6] [7, 8, 9, 10, 11, 12, 13, 14, 15, 16, 17, 18] (wr := (wJ cI cA (V 7) (fun k => V (k + 8)) joined ++ [(a_nb, .inl (cI, 10, .inl nb))])) rfl rfl rfl rfl (by decide) dL_orders_7 ⟨Nat.le_of_ble_eq_true rfl, Nat.le_of_ble_eq_true rfl⟩ (fun r4 worn_3 h => ?_)
  refine x_wsub (ws' := ((wX0J cI cJ cZ cA V land there near worn_3 trial_1 fits ways joined) ++ [(a_nb, .inl (cI, 10, .inl nb))])) [12, 13, 14, 15, 16, 17, 18, 0, 1, 2, 3, 4, 5, 6, 7, 8, 9, 10, 11] rfl rfl ?_
  refine x_istore (lv' := [(0, .ref (V 0)), (1, .ref a_nb), (2, .int p2), (3, .int r2), (4, .int r4)]) (pc := 10) K dL_orders_10 (by decide) rfl ?_
  refine x_iconst (v := (0)) (pc := 12) K dL_orders_12 (by decide) ?_
  refine x_istore (lv' := [(0, .ref (V 0)), (1, .ref a_nb), (2, .int p2), (3, .int r2), (4, .int r4), (5, .int (0 : Int32))]) (pc := 13) K dL_orders_13 (by decide) rfl ?_
  refine x_iconst (v := (0)) (pc := 15) K dL_orders_15 (by decide) ?_
  refine x_istore (lv' := [(0, .ref (V 0)), (1, .ref a_nb), (2, .int p2), (3, .int r2), (4, .int r4), (5, .int (0 : Int32)), (6, .int (0 : Int32))]) (pc := 16) K dL_orders_16 (by decide) rfl ?_
  obtain ⟨n23, h⟩ := h
  refine w_L_orders_L18 K p2 r2 r4 land there near worn_3 trial_1 fits ways joined nb _ _ n23 (0 : Int32) (0 : Int32) h (fun v24 h => ?_) (fun  h => ?_)
  · refine x_iload (pc := 222) K dL_orders_222 2 rfl ?_
    refine x_iload (pc := 224) K dL_orders_224 3 rfl ?_
    obtain ⟨J25, hJ25, h⟩ := xj3_o h
    have kJ25 : ∀ (v26 : Int32) (v27 : Nat → Int32) (v28 : Nat → Int32), J25 v26 v27 v28 → xw X 0 0 262 [(0, .ref (V 0)), (3, .int r2)] [.int v26] ((wX0J cI cJ cZ cA V land there near v27 v28 fits ways joined) ++ [(a_nb, .inl (cI, 10, .inl nb))]) := by
      intro v26 v27 v28 hj
      have h := hJ25 v26 v27 v28 hj
      refine x_istore (lv' := [(0, .ref (V 0)), (3, .int r2), (6, .int v26)]) (pc := 262) K dL_orders_262 (by decide) rfl ?_
      refine x_iconst (v := (0)) (pc := 264) K dL_orders_264 (by decide) ?_
      refine x_istore (lv' := [(0, .ref (V 0)), (3, .int r2), (6, .int v26), (7, .int (0 : Int32))]) (pc := 265) K dL_orders_265 (by decide) rfl ?_
      refine x_iconst (v := (0)) (pc := 267) K dL_orders_267 (by decide) ?_
      refine x_istore (lv' := [(0, .ref (V 0)), (3, .int r2), (6, .int v26), (7, .int (0 : Int32)), (8, .int (0 : Int32))]) (pc := 268) K dL_orders_268 (by decide) rfl ?_
      obtain ⟨n34, h⟩ := h
      refine w_L_orders_L270 K r2 land there near v27 v28 fits ways joined nb _ n34 v26 (0 : Int32) (0 : Int32) h (fun v35 v36 h => ?_)
      refine x_iload (pc := 343) K dL_orders_343 1 rfl ?_
      refine x_if_eq (pc := 345) K dL_orders_345 (tgt := 358) (by decide) (fun c9 => ?_) (fun c9 => ?_)
      · have h := h.1 c9
        refine x_keep [false, false, false] rfl ?_
        refine x_iconst (v := (0)) (pc := 358) K dL_orders_358 (by decide) ?_
        exact hX (0 : Int32) (v27, v28) _ _ h.2 h.1 dL_orders_359
      · have h := h.2 c9
        refine x_keep [true, false, true] rfl ?_
        refine x_iload (pc := 348) K dL_orders_348 1 rfl ?_
        refine x_iload_n (pc := 350) K dL_orders_350 0 rfl rfl ?_
        refine x_icmp_ne (pc := 351) K dL_orders_351 (tgt := 358) (by decide) (fun c9 => ?_) (fun c9 => ?_)
        · have h := h.1 c9
          refine x_keep [false, false] rfl ?_
          refine x_iconst (v := (0)) (pc := 358) K dL_orders_358 (by decide) ?_
          exact hX (0 : Int32) (v27, v28) _ _ h.2 h.1 dL_orders_359
        · have h := h.2 c9
          refine x_keep [false, false] rfl ?_
          refine x_iconst (v := (1)) (pc := 354) K dL_orders_354 (by decide) ?_
          refine x_goto (pc := 355) K dL_orders_355 (tgt := 359) (by decide) ?_
          exact hX (1 : Int32) (v27, v28) _ _ h.2 h.1 dL_orders_359
    obtain ⟨J37, hJ37, h⟩ := xj2_o h
    have kJ37 : ∀ (v38 : Nat → Int32) (v39 : Nat → Int32), J37 v38 v39 → xw X 0 0 261 [(0, .ref (V 0)), (3, .int r2)] [] ((wX0J cI cJ cZ cA V land there near v38 v39 fits ways joined) ++ [(a_nb, .inl (cI, 10, .inl nb))]) := by
      intro v38 v39 hj
      have h := hJ37 v38 v39 hj
      refine x_iconst (v := (0)) (pc := 261) K dL_orders_261 (by decide) ?_
      exact kJ25 (0 : Int32) v38 v39 h
    refine x_icmp_ne (pc := 226) K dL_orders_226 (tgt := 261) (by decide) (fun c9 => ?_) (fun c9 => ?_)
    · have h := h.1 c9
      refine x_keep [true, true, false, false] rfl ?_
      exact kJ37 worn_3 trial_1 h
    · have h := h.2 c9
      refine x_keep [true, true, true, false] rfl ?_
      refine x_iload (pc := 229) K dL_orders_229 2 rfl ?_
      refine x_iload_n (pc := 231) K dL_orders_231 1 rfl rfl ?_
      refine x_icmp_lt (pc := 232) K dL_orders_232 (tgt := 261) (by decide) (fun c9 => ?_) (fun c9 => ?_)
      · have h := h.1 c9
        refine x_keep [true, true, false] rfl ?_
        exact kJ37 worn_3 trial_1 h
      · have h := h.2 c9
        refine x_keep [true, true, false] rfl ?_
        refine x_aload_n (pc := 235) K dL_orders_235 0 rfl rfl ?_
        refine x_callVz (pc := 236) (n := 0) K (c_X0_isTinted l D cI cJ cZ cA V land there near worn_3 trial_1 fits ways _ h) rfl rfl gL_orders_X0_isTinted rfl (by decide +kernel) ⟨Nat.le_of_ble_eq_true rfl, Nat.le_of_ble_eq_true rfl⟩ rfl (av := []) (b := V 0) (ci := 0) (q0 := 0) rfl rfl rfl (Nat.le_of_ble_eq_true rfl) [0, 1, 2, 3, 4, 5, 6] [7, 8, 9, 10, 11, 12, 13, 14, 15, 16, 17, 18] (wr := (wJ cI cA (V 7) (fun k => V (k + 8)) joined ++ [(a_nb, .inl (cI, 10, .inl nb))])) rfl rfl rfl rfl (by decide) dL_orders_236 ⟨Nat.le_of_ble_eq_true rfl, Nat.le_of_ble_eq_true rfl⟩ (fun r40 u9 h => ?_)
        refine x_wsub (ws' := ((wX0J cI cJ cZ cA V land there near worn_3 trial_1 fits ways joined) ++ [(a_nb, .inl (cI, 10, .inl nb))])) [12, 13, 14, 15, 16, 17, 18, 0, 1, 2, 3, 4, 5, 6, 7, 8, 9, 10, 11] rfl rfl ?_
        refine x_if_eq (pc := 239) K dL_orders_239 (tgt := 261) (by decide) (fun c9 => ?_) (fun c9 => ?_)
        · have h := h.1 c9
          exact kJ37 worn_3 trial_1 h
        · have h := h.2 c9
          refine x_aload_n (pc := 242) K dL_orders_242 0 rfl rfl ?_
          refine x_callVi (pc := 243) (n := 0) K (c_X0_tintWithFewest l D cI cJ cZ cA V land there near worn_3 trial_1 fits ways _ h) rfl rfl gL_orders_X0_tintWithFewest rfl (by decide +kernel) ⟨Nat.le_of_ble_eq_true rfl, Nat.le_of_ble_eq_true rfl⟩ rfl (av := []) (b := V 0) (ci := 0) (q0 := 0) rfl rfl rfl (Nat.le_of_ble_eq_true rfl) [0, 1, 2, 3, 4, 5, 6] [7, 8, 9, 10, 11, 12, 13, 14, 15, 16, 17, 18] (wr := (wJ cI cA (V 7) (fun k => V (k + 8)) joined ++ [(a_nb, .inl (cI, 10, .inl nb))])) rfl rfl rfl rfl (by decide) dL_orders_243 ⟨Nat.le_of_ble_eq_true rfl, Nat.le_of_ble_eq_true rfl⟩ (fun r43 u9 h => ?_)
          obtain ⟨worn_41, trial_42⟩ := u9
          refine x_wsub (ws' := ((wX0J cI cJ cZ cA V land there near worn_41 trial_42 fits ways joined) ++ [(a_nb, .inl (cI, 10, .inl nb))])) [12, 13, 14, 15, 16, 17, 18, 0, 1, 2, 3, 4, 5, 6, 7, 8, 9, 10, 11] rfl rfl ?_
          refine x_iload_n (pc := 246) K dL_orders_246 1 rfl rfl ?_
          refine x_icmp_ne (pc := 247) K dL_orders_247 (tgt := 261) (by decide) (fun c9 => ?_) (fun c9 => ?_)
          · have h := h.1 c9
            exact kJ37 worn_41 trial_42 h
          · have h := h.2 c9
            refine x_aload_n (pc := 250) K dL_orders_250 0 rfl rfl ?_
            refine x_callVz (pc := 251) (n := 0) K (c_X0_isTinted l D cI cJ cZ cA V land there near worn_41 trial_42 fits ways _ h) rfl rfl gL_orders_X0_isTinted rfl (by decide +kernel) ⟨Nat.le_of_ble_eq_true rfl, Nat.le_of_ble_eq_true rfl⟩ rfl (av := []) (b := V 0) (ci := 0) (q0 := 0) rfl rfl rfl (Nat.le_of_ble_eq_true rfl) [0, 1, 2, 3, 4, 5, 6] [7, 8, 9, 10, 11, 12, 13, 14, 15, 16, 17, 18] (wr := (wJ cI cA (V 7) (fun k => V (k + 8)) joined ++ [(a_nb, .inl (cI, 10, .inl nb))])) rfl rfl rfl rfl (by decide) dL_orders_251 ⟨Nat.le_of_ble_eq_true rfl, Nat.le_of_ble_eq_true rfl⟩ (fun r44 u9 h => ?_)
            refine x_wsub (ws' := ((wX0J cI cJ cZ cA V land there near worn_41 trial_42 fits ways joined) ++ [(a_nb, .inl (cI, 10, .inl nb))])) [12, 13, 14, 15, 16, 17, 18, 0, 1, 2, 3, 4, 5, 6, 7, 8, 9, 10, 11] rfl rfl ?_
            refine x_if_eq (pc := 254) K dL_orders_254 (tgt := 261) (by decide) (fun c9 => ?_) (fun c9 => ?_)
            · have h := h.1 c9
              exact kJ37 worn_41 trial_42 h
            · have h := h.2 c9
              refine x_iconst (v := (1)) (pc := 257) K dL_orders_257 (by decide) ?_
              refine x_goto (pc := 258) K dL_orders_258 (tgt := 262) (by decide) ?_
              exact kJ25 (1 : Int32) worn_41 trial_42 h
  · refine x_iconst (v := (0)) (pc := 214) K dL_orders_214 (by decide) ?_
    exact hX (0 : Int32) (worn_3, trial_1) _ _ h.2 h.1 dL_orders_215
