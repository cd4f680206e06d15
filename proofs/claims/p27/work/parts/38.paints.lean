abbrev rm_L_paints : Room := { frames := 14, cells := 20, slots := 120, locals := 360 }
theorem kL_paints_0 : Cond.constant RL 21 (-1000002) ∈ wsL_paints := by decide +kernel
theorem kL_paints_1 : Cond.constant RL 18 (-1000001) ∈ wsL_paints := by decide +kernel
def q_L_paints_L206 (u3 : Int32) (u4 : Int32) (u5 : Int32) (u7 : Int32) (u8 : Int32) (land : Nat → Int64) (P0 : Int32 → Prop) : Nat → Int32 → Int32 → Prop
  | 0, _, _ => False
  | n + 1, x9, x10 => (((36 : Int32) ≤ x10 → P0 x9) ∧ (¬ (36 : Int32) ≤ x10 → (((x10 / (6 : Int32)) < u4 → xl (x9 + (0 : Int32)) (fun y21 => q_L_paints_L206 u3 u4 u5 u7 u8 land P0 n y21 (x10 + (1 : Int32)))) ∧ (¬ (x10 / (6 : Int32)) < u4 → ((u7 < (x10 / (6 : Int32)) → xl (x9 + (0 : Int32)) (fun y22 => q_L_paints_L206 u3 u4 u5 u7 u8 land P0 n y22 (x10 + (1 : Int32)))) ∧ (¬ u7 < (x10 / (6 : Int32)) → (((x10 - x10 / (6 : Int32) * (6 : Int32)) < u5 → xl (x9 + (0 : Int32)) (fun y23 => q_L_paints_L206 u3 u4 u5 u7 u8 land P0 n y23 (x10 + (1 : Int32)))) ∧ (¬ (x10 - x10 / (6 : Int32) * (6 : Int32)) < u5 → ((u8 < (x10 - x10 / (6 : Int32) * (6 : Int32)) → xl (x9 + (0 : Int32)) (fun y24 => q_L_paints_L206 u3 u4 u5 u7 u8 land P0 n y24 (x10 + (1 : Int32)))) ∧ (¬ u8 < (x10 - x10 / (6 : Int32) * (6 : Int32)) → q0_L_countryAt (x10 / (6 : Int32)) (x10 - x10 / (6 : Int32) * (6 : Int32)) land (fun (r25 : Int32) => ((r25 = u3 → xl (x9 + (0 : Int32)) (fun y26 => q_L_paints_L206 u3 u4 u5 u7 u8 land P0 n y26 (x10 + (1 : Int32)))) ∧ (¬ r25 = u3 → xl (x9 + (1 : Int32)) (fun y27 => q_L_paints_L206 u3 u4 u5 u7 u8 land P0 n y27 (x10 + (1 : Int32))))))))))))))))
def q_L_paints (p1 : Int32) (p2 : Int32) (land : Nat → Int64) (there : Int32) (near : Nat → Int32) (P : Int32 → (Nat → Int64) → Int32 → (Nat → Int32) → Prop) : Prop := q_L_low (p1 >>> ((4 : Int32) &&& 31)) (11 : Int32) (fun (r1 : Int32) => xl (r1 - (1 : Int32)) (fun y2 => q_L_low p2 (6 : Int32) (fun (r3 : Int32) => q_L_low (p2 >>> ((3 : Int32) &&& 31)) (6 : Int32) (fun (r4 : Int32) => q0_L_countryAt r3 r4 land (fun (r5 : Int32) => q_L_low p1 (3 : Int32) (fun (r6 : Int32) => ((¬ r6 = (0 : Int32) → q_L_low (p1 >>> ((8 : Int32) &&& 31)) (2 : Int32) (fun (r7 : Int32) => xj1 (fun (v9 : Int32) => q_L_low (p2 >>> ((6 : Int32) &&& 31)) v9 (fun (r10 : Int32) => xl (r3 + r10) (fun y11 => q_L_low (p1 >>> ((9 : Int32) &&& 31)) (2 : Int32) (fun (r12 : Int32) => xj1 (fun (v14 : Int32) => q_L_low (p2 >>> ((9 : Int32) &&& 31)) v14 (fun (r15 : Int32) => xl (r4 + r15) (fun y16 => xj1 (fun (v18 : Int32) => xj1 (fun (v20 : Int32) => (∃ n28 : Nat, q_L_paints_L206 y2 r3 r4 v18 v20 land (fun (v29 : Int32) => q_L_paintBlock r3 r4 v18 v20 y2 land near there (fun (r33 : Int32) (land_30 : Nat → Int64) (there_31 : Int32) (near_32 : Nat → Int32) => ((¬ r33 = v29 → (xbool (0 : Int32) ∧ P (0 : Int32) land_30 there_31 near_32)) ∧ (r33 = v29 → q_L_paintBlock r3 r4 v18 v20 y2 land_30 near_32 there_31 (fun (r37 : Int32) (land_34 : Nat → Int64) (there_35 : Int32) (near_36 : Nat → Int32) => ((¬ r37 = (0 : Int32) → (xbool (0 : Int32) ∧ P (0 : Int32) land_34 there_35 near_36)) ∧ (r37 = (0 : Int32) → q0_L_countryAt v18 v20 land_34 (fun (r38 : Int32) => ((¬ r38 = y2 → (xbool (0 : Int32) ∧ P (0 : Int32) land_34 there_35 near_36)) ∧ (r38 = y2 → q_L_paintBlock (1 : Int32) (1 : Int32) (0 : Int32) (1 : Int32) (0 : Int32) land_34 near_36 there_35 (fun (r42 : Int32) (land_39 : Nat → Int64) (there_40 : Int32) (near_41 : Nat → Int32) => ((¬ r42 = (-1000002 : Int32) → (xbool (0 : Int32) ∧ P (0 : Int32) land_39 there_40 near_41)) ∧ (r42 = (-1000002 : Int32) → q_L_paintBlock (0 : Int32) (0 : Int32) (6 : Int32) (0 : Int32) (10 : Int32) land_39 near_41 there_40 (fun (r46 : Int32) (land_43 : Nat → Int64) (there_44 : Int32) (near_45 : Nat → Int32) => ((¬ r46 = (-1000001 : Int32) → (xbool (0 : Int32) ∧ P (0 : Int32) land_43 there_44 near_45)) ∧ (r46 = (-1000001 : Int32) → q_L_paintBlock (2 : Int32) (3 : Int32) (2 : Int32) (2 : Int32) (0 : Int32) land_43 near_45 there_44 (fun (r50 : Int32) (land_47 : Nat → Int64) (there_48 : Int32) (near_49 : Nat → Int32) => ((¬ r50 = (-1000002 : Int32) → (xbool (0 : Int32) ∧ P (0 : Int32) land_47 there_48 near_49)) ∧ (r50 = (-1000002 : Int32) → (xbool (1 : Int32) ∧ P (1 : Int32) land_47 there_48 near_49)))))))))))))))))))) n28 (0 : Int32) (0 : Int32))) (fun (J19 : Int32 → Prop) => ((y16 ≤ (5 : Int32) → J19 y16) ∧ (¬ y16 ≤ (5 : Int32) → J19 (5 : Int32))))) (fun (J17 : Int32 → Prop) => ((y11 ≤ (5 : Int32) → J17 y11) ∧ (¬ y11 ≤ (5 : Int32) → J17 (5 : Int32))))))) (fun (J13 : Int32 → Prop) => ((¬ r12 = (0 : Int32) → J13 (2 : Int32)) ∧ (r12 = (0 : Int32) → J13 ((6 : Int32) - r4)))))))) (fun (J8 : Int32 → Prop) => ((¬ r7 = (0 : Int32) → J8 (2 : Int32)) ∧ (r7 = (0 : Int32) → J8 ((6 : Int32) - r3)))))) ∧ (r6 = (0 : Int32) → q_L_paint r3 r4 y2 land near there (fun (r54 : Int32) (land_51 : Nat → Int64) (there_52 : Int32) (near_53 : Nat → Int32) => ((¬ r54 = r5 → (xbool (0 : Int32) ∧ P (0 : Int32) land_51 there_52 near_53)) ∧ (r54 = r5 → q0_L_countryAt r3 r4 land_51 (fun (r55 : Int32) => ((¬ r55 = y2 → (xbool (0 : Int32) ∧ P (0 : Int32) land_51 there_52 near_53)) ∧ (r55 = y2 → q_L_paint r3 r4 (10 : Int32) land_51 near_53 there_52 (fun (r59 : Int32) (land_56 : Nat → Int64) (there_57 : Int32) (near_58 : Nat → Int32) => ((¬ r59 = (-1000002 : Int32) → (xbool (0 : Int32) ∧ P (0 : Int32) land_56 there_57 near_58)) ∧ (r59 = (-1000002 : Int32) → q_L_paint (6 : Int32) (0 : Int32) (-2 : Int32) land_56 near_58 there_57 (fun (r63 : Int32) (land_60 : Nat → Int64) (there_61 : Int32) (near_62 : Nat → Int32) => ((¬ r63 = (-1000001 : Int32) → (xbool (0 : Int32) ∧ P (0 : Int32) land_60 there_61 near_62)) ∧ (r63 = (-1000001 : Int32) → (xbool (1 : Int32) ∧ P (1 : Int32) land_60 there_61 near_62)))))))))))))))))))))
set_option maxHeartbeats 4000000 in
set_option maxRecDepth 100000 in
theorem w_L_paints_L206 {X : xC} {l : Launch} {D : va_G} {cI cJ cZ cA : ClassId} {V : Nat → Nat} (K : xk X l rm_L_paints D vwCl (xtys cI cJ cZ cA) cL_paints RL wsL_paints 11) (u3 : Int32) (u4 : Int32) (u5 : Int32) (u7 : Int32) (u8 : Int32) (land : Nat → Int64) (there : Int32) (near : Nat → Int32) (worn : Nat → Int32) (trial : Nat → Int32) (fits : Nat → Int32) (ways : Nat → Int64) (joined : Nat → Nat → Int32) (hE : xEx X RX0 [(61, "the block ends before it begins"), (180, "there is no such row or column"), (185, "neither a country nor sea")]) (hN : xno X) (hst : l.stackTraces = false) (P0 : Int32 → Prop) : ∀ (n : Nat) (x9 : Int32) (x10 : Int32), q_L_paints_L206 u3 u4 u5 u7 u8 land P0 n x9 x10 → (∀ (z0 : Int32), P0 z0 → xw X 0 0 287 [(0, .ref (V 0)), (3, .int u3), (4, .int u4), (5, .int u5), (7, .int u7), (8, .int u8), (9, .int z0)] [] (wX0J cI cJ cZ cA V land there near worn trial fits ways joined)) → xw X 0 0 206 [(0, .ref (V 0)), (3, .int u3), (4, .int u4), (5, .int u5), (7, .int u7), (8, .int u8), (9, .int x9), (10, .int x10)] [] (wX0J cI cJ cZ cA V land there near worn trial fits ways joined) := by
  intro n
  induction n with
  | zero =>
    intro x9 x10 h
    rw [q_L_paints_L206] at h
    exact h.elim
  | succ n ih =>
    intro x9 x10 h k0
    rw [q_L_paints_L206] at h
    refine x_iload (pc := 206) K dL_paints_206 7 rfl ?_
    refine x_bipush (v := (36)) (pc := 208) K dL_paints_208 (by decide) ?_
    refine x_icmp_ge (pc := 210) K dL_paints_210 (tgt := 287) (by decide) (fun c9 => ?_) (fun c9 => ?_)
    · have h := h.1 c9
      refine x_keep [true, true, true, true, true, true, true, false] rfl ?_
      exact k0 x9 h
    · have h := h.2 c9
      refine x_iload (pc := 213) K dL_paints_213 6 rfl ?_
      refine x_iload (pc := 215) K dL_paints_215 7 rfl ?_
      refine x_bipush (v := (6)) (pc := 217) K dL_paints_217 (by decide) ?_
      refine x_idiv (pc := 219) K (by decide) dL_paints_219 ?_
      refine x_iload (pc := 220) K dL_paints_220 2 rfl ?_
      refine x_icmp_lt (pc := 222) K dL_paints_222 (tgt := 277) (by decide) (fun c9 => ?_) (fun c9 => ?_)
      · have h := h.1 c9
        refine x_keep [true, true, true, true, true, true, false, true] rfl ?_
        refine x_iconst (v := (0)) (pc := 277) K dL_paints_277 (by decide) ?_
        refine x_iadd (pc := 278) K dL_paints_278 ?_
        obtain ⟨y21, ey21, h⟩ := xl_o h
        refine x_topi ey21 ?_
        clear ey21
        refine x_istore (lv' := [(0, .ref (V 0)), (3, .int u3), (4, .int u4), (5, .int u5), (7, .int u7), (8, .int u8), (9, .int y21), (10, .int x10)]) (pc := 279) K dL_paints_279 (by decide) rfl ?_
        refine x_iinc (v := x10 + (1 : Int32)) (lv' := [(0, .ref (V 0)), (3, .int u3), (4, .int u4), (5, .int u5), (7, .int u7), (8, .int u8), (9, .int y21), (10, .int (x10 + (1 : Int32)))]) (pc := 281) K dL_paints_281 (k := 7) rfl rfl (by decide) rfl ?_
        refine x_goto (pc := 284) K dL_paints_284 (tgt := 206) (by decide) ?_
        exact ih y21 (x10 + (1 : Int32)) h k0
      · have h := h.2 c9
        refine x_keep [true, true, true, true, true, true, false, true] rfl ?_
        refine x_iload (pc := 225) K dL_paints_225 6 rfl ?_
        refine x_bipush (v := (6)) (pc := 227) K dL_paints_227 (by decide) ?_
        refine x_idiv (pc := 229) K (by decide) dL_paints_229 ?_
        refine x_iload (pc := 230) K dL_paints_230 4 rfl ?_
        refine x_icmp_gt (pc := 232) K dL_paints_232 (tgt := 277) (by decide) (fun c9 => ?_) (fun c9 => ?_)
        · have h := h.1 c9
          refine x_iconst (v := (0)) (pc := 277) K dL_paints_277 (by decide) ?_
          refine x_iadd (pc := 278) K dL_paints_278 ?_
          obtain ⟨y22, ey22, h⟩ := xl_o h
          refine x_topi ey22 ?_
          clear ey22
          refine x_istore (lv' := [(0, .ref (V 0)), (3, .int u3), (4, .int u4), (5, .int u5), (7, .int u7), (8, .int u8), (9, .int y22), (10, .int x10)]) (pc := 279) K dL_paints_279 (by decide) rfl ?_
          refine x_iinc (v := x10 + (1 : Int32)) (lv' := [(0, .ref (V 0)), (3, .int u3), (4, .int u4), (5, .int u5), (7, .int u7), (8, .int u8), (9, .int y22), (10, .int (x10 + (1 : Int32)))]) (pc := 281) K dL_paints_281 (k := 7) rfl rfl (by decide) rfl ?_
          refine x_goto (pc := 284) K dL_paints_284 (tgt := 206) (by decide) ?_
          exact ih y22 (x10 + (1 : Int32)) h k0
        · have h := h.2 c9
          refine x_iload (pc := 235) K dL_paints_235 6 rfl ?_
          refine x_bipush (v := (6)) (pc := 237) K dL_paints_237 (by decide) ?_
          refine x_irem (pc := 239) K (by decide) dL_paints_239 ?_
          refine x_iload (pc := 240) K dL_paints_240 3 rfl ?_
          refine x_icmp_lt (pc := 242) K dL_paints_242 (tgt := 277) (by decide) (fun c9 => ?_) (fun c9 => ?_)
          · have h := h.1 c9
            refine x_iconst (v := (0)) (pc := 277) K dL_paints_277 (by decide) ?_
            refine x_iadd (pc := 278) K dL_paints_278 ?_
            obtain ⟨y23, ey23, h⟩ := xl_o h
            refine x_topi ey23 ?_
            clear ey23
            refine x_istore (lv' := [(0, .ref (V 0)), (3, .int u3), (4, .int u4), (5, .int u5), (7, .int u7), (8, .int u8), (9, .int y23), (10, .int x10)]) (pc := 279) K dL_paints_279 (by decide) rfl ?_
            refine x_iinc (v := x10 + (1 : Int32)) (lv' := [(0, .ref (V 0)), (3, .int u3), (4, .int u4), (5, .int u5), (7, .int u7), (8, .int u8), (9, .int y23), (10, .int (x10 + (1 : Int32)))]) (pc := 281) K dL_paints_281 (k := 7) rfl rfl (by decide) rfl ?_
            refine x_goto (pc := 284) K dL_paints_284 (tgt := 206) (by decide) ?_
            exact ih y23 (x10 + (1 : Int32)) h k0
          · have h := h.2 c9
            refine x_iload (pc := 245) K dL_paints_245 6 rfl ?_
            refine x_bipush (v := (6)) (pc := 247) K dL_paints_247 (by decide) ?_
            refine x_irem (pc := 249) K (by decide) dL_paints_249 ?_
            refine x_iload (pc := 250) K dL_paints_250 5 rfl ?_
            refine x_icmp_gt (pc := 252) K dL_paints_252 (tgt := 277) (by decide) (fun c9 => ?_) (fun c9 => ?_)
            · have h := h.1 c9
              refine x_iconst (v := (0)) (pc := 277) K dL_paints_277 (by decide) ?_
              refine x_iadd (pc := 278) K dL_paints_278 ?_
              obtain ⟨y24, ey24, h⟩ := xl_o h
              refine x_topi ey24 ?_
              clear ey24
              refine x_istore (lv' := [(0, .ref (V 0)), (3, .int u3), (4, .int u4), (5, .int u5), (7, .int u7), (8, .int u8), (9, .int y24), (10, .int x10)]) (pc := 279) K dL_paints_279 (by decide) rfl ?_
              refine x_iinc (v := x10 + (1 : Int32)) (lv' := [(0, .ref (V 0)), (3, .int u3), (4, .int u4), (5, .int u5), (7, .int u7), (8, .int u8), (9, .int y24), (10, .int (x10 + (1 : Int32)))]) (pc := 281) K dL_paints_281 (k := 7) rfl rfl (by decide) rfl ?_
              refine x_goto (pc := 284) K dL_paints_284 (tgt := 206) (by decide) ?_
              exact ih y24 (x10 + (1 : Int32)) h k0
            · have h := h.2 c9
              refine x_aload_n (pc := 255) K dL_paints_255 0 rfl rfl ?_
              refine x_iload (pc := 256) K dL_paints_256 6 rfl ?_
              refine x_bipush (v := (6)) (pc := 258) K dL_paints_258 (by decide) ?_
              refine x_idiv (pc := 260) K (by decide) dL_paints_260 ?_
              refine x_iload (pc := 261) K dL_paints_261 6 rfl ?_
              refine x_bipush (v := (6)) (pc := 263) K dL_paints_263 (by decide) ?_
              refine x_irem (pc := 265) K (by decide) dL_paints_265 ?_
              refine x_wcallSi (pc := 266) (n := 3) K (c0_L_countryAt l D cI cJ cZ cA V (x10 / (6 : Int32)) (x10 - x10 / (6 : Int32) * (6 : Int32)) land there near worn trial fits ways joined _ h) rfl rfl gL_paints_L_countryAt rfl (by decide +kernel) ⟨Nat.le_of_ble_eq_true rfl, Nat.le_of_ble_eq_true rfl⟩ rfl (av := [.ref (V 0), .int (x10 / (6 : Int32)), .int (x10 - x10 / (6 : Int32) * (6 : Int32))]) rfl (Nat.le_of_ble_eq_true rfl) [0, 1, 2, 3, 4, 5, 6, 7, 8, 9, 10, 11, 12, 13, 14, 15, 16, 17] [] (wr := []) rfl rfl rfl rfl (by decide) dL_paints_266 ⟨Nat.le_of_ble_eq_true rfl, Nat.le_of_ble_eq_true rfl⟩ (fun r25 u9 h => ?_)
              refine x_wsub (ws' := (wX0J cI cJ cZ cA V land there near worn trial fits ways joined)) [0, 1, 2, 3, 4, 5, 6, 7, 8, 9, 10, 11, 12, 13, 14, 15, 16, 17] rfl rfl ?_
              refine x_iload_n (pc := 269) K dL_paints_269 1 rfl rfl ?_
              refine x_icmp_eq (pc := 270) K dL_paints_270 (tgt := 277) (by decide) (fun c9 => ?_) (fun c9 => ?_)
              · have h := h.1 c9
                refine x_iconst (v := (0)) (pc := 277) K dL_paints_277 (by decide) ?_
                refine x_iadd (pc := 278) K dL_paints_278 ?_
                obtain ⟨y26, ey26, h⟩ := xl_o h
                refine x_topi ey26 ?_
                clear ey26
                refine x_istore (lv' := [(0, .ref (V 0)), (3, .int u3), (4, .int u4), (5, .int u5), (7, .int u7), (8, .int u8), (9, .int y26), (10, .int x10)]) (pc := 279) K dL_paints_279 (by decide) rfl ?_
                refine x_iinc (v := x10 + (1 : Int32)) (lv' := [(0, .ref (V 0)), (3, .int u3), (4, .int u4), (5, .int u5), (7, .int u7), (8, .int u8), (9, .int y26), (10, .int (x10 + (1 : Int32)))]) (pc := 281) K dL_paints_281 (k := 7) rfl rfl (by decide) rfl ?_
                refine x_goto (pc := 284) K dL_paints_284 (tgt := 206) (by decide) ?_
                exact ih y26 (x10 + (1 : Int32)) h k0
              · have h := h.2 c9
                refine x_iconst (v := (1)) (pc := 273) K dL_paints_273 (by decide) ?_
                refine x_goto (pc := 274) K dL_paints_274 (tgt := 278) (by decide) ?_
                refine x_iadd (pc := 278) K dL_paints_278 ?_
                obtain ⟨y27, ey27, h⟩ := xl_o h
                refine x_topi ey27 ?_
                clear ey27
                refine x_istore (lv' := [(0, .ref (V 0)), (3, .int u3), (4, .int u4), (5, .int u5), (7, .int u7), (8, .int u8), (9, .int y27), (10, .int x10)]) (pc := 279) K dL_paints_279 (by decide) rfl ?_
                refine x_iinc (v := x10 + (1 : Int32)) (lv' := [(0, .ref (V 0)), (3, .int u3), (4, .int u4), (5, .int u5), (7, .int u7), (8, .int u8), (9, .int y27), (10, .int (x10 + (1 : Int32)))]) (pc := 281) K dL_paints_281 (k := 7) rfl rfl (by decide) rfl ?_
                refine x_goto (pc := 284) K dL_paints_284 (tgt := 206) (by decide) ?_
                exact ih y27 (x10 + (1 : Int32)) h k0
set_option maxHeartbeats 4000000 in
set_option maxRecDepth 100000 in
theorem c_L_paints (l : Launch) (D : va_G) (cI cJ cZ cA : ClassId) (hst : l.stackTraces = false) (V : Nat → Nat) (p1 : Int32) (p2 : Int32) (land : Nat → Int64) (there : Int32) (near : Nat → Int32) (worn : Nat → Int32) (trial : Nat → Int32) (fits : Nat → Int32) (ways : Nat → Int64) (joined : Nat → Nat → Int32) (P : Int32 → (Nat → Int64) → Int32 → (Nat → Int32) → Prop) (h : q_L_paints p1 p2 land there near P) : xHz l yL_paints wsL_paints rm_L_paints D vwCl (xtys cI cJ cZ cA) (wX0J cI cJ cZ cA V land there near worn trial fits ways joined) [.ref (V 0), .int p1, .int p2] RX0 [(61, "the block ends before it begins"), (180, "there is no such row or column"), (185, "neither a country nor sea")] (σ := (Nat → Int64) × Int32 × (Nat → Int32)) (fun u => (wX0J cI cJ cZ cA V u.1 u.2.1 u.2.2 worn trial fits ways joined)) (fun r u => P r u.1 u.2.1 u.2.2) 20 120 := by
  refine xHz_of (cc := cL_paints) (maxL := 11) (by decide) rfl (Nat.le_of_ble_eq_true rfl) ?_
  intro X K hE hN hX
  have K : xk X l rm_L_paints D vwCl (xtys cI cJ cZ cA) cL_paints RL wsL_paints 11 := K
  unfold q_L_paints at h
  refine x_iload_n (pc := 0) K dL_paints_0 1 rfl rfl ?_
  refine x_iconst (v := (4)) (pc := 1) K dL_paints_1 (by decide) ?_
  refine x_ishr (pc := 2) K dL_paints_2 ?_
  refine x_bipush (v := (11)) (pc := 3) K dL_paints_3 (by decide) ?_
  refine x_pcallSi (pc := 5) (n := 2) K (c_L_low l D cI cJ cZ cA (p1 >>> ((4 : Int32) &&& 31)) (11 : Int32) _ h) rfl rfl gL_paints_L_low rfl (by decide +kernel) ⟨Nat.le_of_ble_eq_true rfl, Nat.le_of_ble_eq_true rfl⟩ rfl (av := [.int (p1 >>> ((4 : Int32) &&& 31)), .int (11 : Int32)]) rfl (Nat.le_of_ble_eq_true rfl) dL_paints_5 ⟨Nat.le_of_ble_eq_true rfl, Nat.le_of_ble_eq_true rfl⟩ (fun r1 u9 h => ?_)
  refine x_iconst (v := (1)) (pc := 8) K dL_paints_8 (by decide) ?_
  refine x_isub (pc := 9) K dL_paints_9 ?_
  obtain ⟨y2, ey2, h⟩ := xl_o h
  refine x_topi ey2 ?_
  clear ey2
  refine x_istore_n (lv' := [(0, .ref (V 0)), (1, .int p1), (2, .int p2), (3, .int y2)]) (pc := 10) K dL_paints_10 rfl (by decide) rfl ?_
  refine x_iload_n (pc := 11) K dL_paints_11 2 rfl rfl ?_
  refine x_bipush (v := (6)) (pc := 12) K dL_paints_12 (by decide) ?_
  refine x_pcallSi (pc := 14) (n := 2) K (c_L_low l D cI cJ cZ cA p2 (6 : Int32) _ h) rfl rfl gL_paints_L_low rfl (by decide +kernel) ⟨Nat.le_of_ble_eq_true rfl, Nat.le_of_ble_eq_true rfl⟩ rfl (av := [.int p2, .int (6 : Int32)]) rfl (Nat.le_of_ble_eq_true rfl) dL_paints_14 ⟨Nat.le_of_ble_eq_true rfl, Nat.le_of_ble_eq_true rfl⟩ (fun r3 u9 h => ?_)
  refine x_istore (lv' := [(0, .ref (V 0)), (1, .int p1), (2, .int p2), (3, .int y2), (4, .int r3)]) (pc := 17) K dL_paints_17 (by decide) rfl ?_
  refine x_iload_n (pc := 19) K dL_paints_19 2 rfl rfl ?_
  refine x_iconst (v := (3)) (pc := 20) K dL_paints_20 (by decide) ?_
  refine x_ishr (pc := 21) K dL_paints_21 ?_
  refine x_bipush (v := (6)) (pc := 22) K dL_paints_22 (by decide) ?_
  refine x_pcallSi (pc := 24) (n := 2) K (c_L_low l D cI cJ cZ cA (p2 >>> ((3 : Int32) &&& 31)) (6 : Int32) _ h) rfl rfl gL_paints_L_low rfl (by decide +kernel) ⟨Nat.le_of_ble_eq_true rfl, Nat.le_of_ble_eq_true rfl⟩ rfl (av := [.int (p2 >>> ((3 : Int32) &&& 31)), .int (6 : Int32)]) rfl (Nat.le_of_ble_eq_true rfl) dL_paints_24 ⟨Nat.le_of_ble_eq_true rfl, Nat.le_of_ble_eq_true rfl⟩ (fun r4 u9 h => ?_)
  refine x_istore (lv' := [(0, .ref (V 0)), (1, .int p1), (2, .int p2), (3, .int y2), (4, .int r3), (5, .int r4)]) (pc := 27) K dL_paints_27 (by decide) rfl ?_
  refine x_aload_n (pc := 29) K dL_paints_29 0 rfl rfl ?_
  refine x_iload (pc := 30) K dL_paints_30 4 rfl ?_
  refine x_iload (pc := 32) K dL_paints_32 5 rfl ?_
  refine x_wcallSi (pc := 34) (n := 3) K (c0_L_countryAt l D cI cJ cZ cA V r3 r4 land there near worn trial fits ways joined _ h) rfl rfl gL_paints_L_countryAt rfl (by decide +kernel) ⟨Nat.le_of_ble_eq_true rfl, Nat.le_of_ble_eq_true rfl⟩ rfl (av := [.ref (V 0), .int r3, .int r4]) rfl (Nat.le_of_ble_eq_true rfl) [0, 1, 2, 3, 4, 5, 6, 7, 8, 9, 10, 11, 12, 13, 14, 15, 16, 17] [] (wr := []) rfl rfl rfl rfl (by decide) dL_paints_34 ⟨Nat.le_of_ble_eq_true rfl, Nat.le_of_ble_eq_true rfl⟩ (fun r5 u9 h => ?_)
  refine x_wsub (ws' := (wX0J cI cJ cZ cA V land there near worn trial fits ways joined)) [0, 1, 2, 3, 4, 5, 6, 7, 8, 9, 10, 11, 12, 13, 14, 15, 16, 17] rfl rfl ?_
  refine x_istore (lv' := [(0, .ref (V 0)), (1, .int p1), (2, .int p2), (3, .int y2), (4, .int r3), (5, .int r4), (6, .int r5)]) (pc := 37) K dL_paints_37 (by decide) rfl ?_
  refine x_iload_n (pc := 39) K dL_paints_39 1 rfl rfl ?_
  refine x_iconst (v := (3)) (pc := 40) K dL_paints_40 (by decide) ?_
  refine x_pcallSi (pc := 41) (n := 2) K (c_L_low l D cI cJ cZ cA p1 (3 : Int32) _ h) rfl rfl gL_paints_L_low rfl (by decide +kernel) ⟨Nat.le_of_ble_eq_true rfl, Nat.le_of_ble_eq_true rfl⟩ rfl (av := [.int p1, .int (3 : Int32)]) rfl (Nat.le_of_ble_eq_true rfl) dL_paints_41 ⟨Nat.le_of_ble_eq_true rfl, Nat.le_of_ble_eq_true rfl⟩ (fun r6 u9 h => ?_)
  refine x_if_ne (pc := 44) K dL_paints_44 (tgt := 108) (by decide) (fun c9 => ?_) (fun c9 => ?_)
  · have h := h.1 c9
    refine x_keep [true, true, true, true, true, true, false] rfl ?_
    refine x_iload (pc := 108) K dL_paints_108 4 rfl ?_
    refine x_iload_n (pc := 110) K dL_paints_110 2 rfl rfl ?_
    refine x_bipush (v := (6)) (pc := 111) K dL_paints_111 (by decide) ?_
    refine x_ishr (pc := 113) K dL_paints_113 ?_
    refine x_iload_n (pc := 114) K dL_paints_114 1 rfl rfl ?_
    refine x_bipush (v := (8)) (pc := 115) K dL_paints_115 (by decide) ?_
    refine x_ishr (pc := 117) K dL_paints_117 ?_
    refine x_iconst (v := (2)) (pc := 118) K dL_paints_118 (by decide) ?_
    refine x_pcallSi (pc := 119) (n := 2) K (c_L_low l D cI cJ cZ cA (p1 >>> ((8 : Int32) &&& 31)) (2 : Int32) _ h) rfl rfl gL_paints_L_low rfl (by decide +kernel) ⟨Nat.le_of_ble_eq_true rfl, Nat.le_of_ble_eq_true rfl⟩ rfl (av := [.int (p1 >>> ((8 : Int32) &&& 31)), .int (2 : Int32)]) rfl (Nat.le_of_ble_eq_true rfl) dL_paints_119 ⟨Nat.le_of_ble_eq_true rfl, Nat.le_of_ble_eq_true rfl⟩ (fun r7 u9 h => ?_)
    obtain ⟨J8, hJ8, h⟩ := xj1_o h
    have kJ8 : ∀ (v9 : Int32), J8 v9 → xw X 0 0 134 [(0, .ref (V 0)), (1, .int p1), (2, .int p2), (3, .int y2), (4, .int r3), (5, .int r4)] [.int v9, .int (p2 >>> ((6 : Int32) &&& 31)), .int r3] (wX0J cI cJ cZ cA V land there near worn trial fits ways joined) := by
      intro v9 hj
      have h := hJ8 v9 hj
      refine x_pcallSi (pc := 134) (n := 2) K (c_L_low l D cI cJ cZ cA (p2 >>> ((6 : Int32) &&& 31)) v9 _ h) rfl rfl gL_paints_L_low rfl (by decide +kernel) ⟨Nat.le_of_ble_eq_true rfl, Nat.le_of_ble_eq_true rfl⟩ rfl (av := [.int (p2 >>> ((6 : Int32) &&& 31)), .int v9]) rfl (Nat.le_of_ble_eq_true rfl) dL_paints_134 ⟨Nat.le_of_ble_eq_true rfl, Nat.le_of_ble_eq_true rfl⟩ (fun r10 u9 h => ?_)
      refine x_iadd (pc := 137) K dL_paints_137 ?_
      obtain ⟨y11, ey11, h⟩ := xl_o h
      refine x_topi ey11 ?_
      clear ey11
      refine x_istore (lv' := [(0, .ref (V 0)), (1, .int p1), (2, .int p2), (3, .int y2), (4, .int r3), (5, .int r4), (7, .int y11)]) (pc := 138) K dL_paints_138 (by decide) rfl ?_
      refine x_iload (pc := 140) K dL_paints_140 5 rfl ?_
      refine x_iload_n (pc := 142) K dL_paints_142 2 rfl rfl ?_
      refine x_bipush (v := (9)) (pc := 143) K dL_paints_143 (by decide) ?_
      refine x_ishr (pc := 145) K dL_paints_145 ?_
      refine x_iload_n (pc := 146) K dL_paints_146 1 rfl rfl ?_
      refine x_bipush (v := (9)) (pc := 147) K dL_paints_147 (by decide) ?_
      refine x_ishr (pc := 149) K dL_paints_149 ?_
      refine x_iconst (v := (2)) (pc := 150) K dL_paints_150 (by decide) ?_
      refine x_pcallSi (pc := 151) (n := 2) K (c_L_low l D cI cJ cZ cA (p1 >>> ((9 : Int32) &&& 31)) (2 : Int32) _ h) rfl rfl gL_paints_L_low rfl (by decide +kernel) ⟨Nat.le_of_ble_eq_true rfl, Nat.le_of_ble_eq_true rfl⟩ rfl (av := [.int (p1 >>> ((9 : Int32) &&& 31)), .int (2 : Int32)]) rfl (Nat.le_of_ble_eq_true rfl) dL_paints_151 ⟨Nat.le_of_ble_eq_true rfl, Nat.le_of_ble_eq_true rfl⟩ (fun r12 u9 h => ?_)
      obtain ⟨J13, hJ13, h⟩ := xj1_o h
      have kJ13 : ∀ (v14 : Int32), J13 v14 → xw X 0 0 166 [(0, .ref (V 0)), (3, .int y2), (4, .int r3), (5, .int r4), (7, .int y11)] [.int v14, .int (p2 >>> ((9 : Int32) &&& 31)), .int r4] (wX0J cI cJ cZ cA V land there near worn trial fits ways joined) := by
        intro v14 hj
        have h := hJ13 v14 hj
        refine x_pcallSi (pc := 166) (n := 2) K (c_L_low l D cI cJ cZ cA (p2 >>> ((9 : Int32) &&& 31)) v14 _ h) rfl rfl gL_paints_L_low rfl (by decide +kernel) ⟨Nat.le_of_ble_eq_true rfl, Nat.le_of_ble_eq_true rfl⟩ rfl (av := [.int (p2 >>> ((9 : Int32) &&& 31)), .int v14]) rfl (Nat.le_of_ble_eq_true rfl) dL_paints_166 ⟨Nat.le_of_ble_eq_true rfl, Nat.le_of_ble_eq_true rfl⟩ (fun r15 u9 h => ?_)
        refine x_iadd (pc := 169) K dL_paints_169 ?_
        obtain ⟨y16, ey16, h⟩ := xl_o h
        refine x_topi ey16 ?_
        clear ey16
        refine x_istore (lv' := [(0, .ref (V 0)), (3, .int y2), (4, .int r3), (5, .int r4), (7, .int y11), (8, .int y16)]) (pc := 170) K dL_paints_170 (by decide) rfl ?_
        refine x_iload (pc := 172) K dL_paints_172 4 rfl ?_
        refine x_iconst (v := (5)) (pc := 174) K dL_paints_174 (by decide) ?_
        obtain ⟨J17, hJ17, h⟩ := xj1_o h
        have kJ17 : ∀ (v18 : Int32), J17 v18 → xw X 0 0 184 [(0, .ref (V 0)), (3, .int y2), (4, .int r3), (5, .int r4), (8, .int y16)] [.int v18] (wX0J cI cJ cZ cA V land there near worn trial fits ways joined) := by
          intro v18 hj
          have h := hJ17 v18 hj
          refine x_istore (lv' := [(0, .ref (V 0)), (3, .int y2), (4, .int r3), (5, .int r4), (7, .int v18), (8, .int y16)]) (pc := 184) K dL_paints_184 (by decide) rfl ?_
          refine x_iload (pc := 186) K dL_paints_186 5 rfl ?_
          refine x_iconst (v := (5)) (pc := 188) K dL_paints_188 (by decide) ?_
          obtain ⟨J19, hJ19, h⟩ := xj1_o h
          have kJ19 : ∀ (v20 : Int32), J19 v20 → xw X 0 0 198 [(0, .ref (V 0)), (3, .int y2), (4, .int r3), (5, .int r4), (7, .int v18)] [.int v20] (wX0J cI cJ cZ cA V land there near worn trial fits ways joined) := by
            intro v20 hj
            have h := hJ19 v20 hj
            refine x_istore (lv' := [(0, .ref (V 0)), (3, .int y2), (4, .int r3), (5, .int r4), (7, .int v18), (8, .int v20)]) (pc := 198) K dL_paints_198 (by decide) rfl ?_
            refine x_iconst (v := (0)) (pc := 200) K dL_paints_200 (by decide) ?_
            refine x_istore (lv' := [(0, .ref (V 0)), (3, .int y2), (4, .int r3), (5, .int r4), (7, .int v18), (8, .int v20), (9, .int (0 : Int32))]) (pc := 201) K dL_paints_201 (by decide) rfl ?_
            refine x_iconst (v := (0)) (pc := 203) K dL_paints_203 (by decide) ?_
            refine x_istore (lv' := [(0, .ref (V 0)), (3, .int y2), (4, .int r3), (5, .int r4), (7, .int v18), (8, .int v20), (9, .int (0 : Int32)), (10, .int (0 : Int32))]) (pc := 204) K dL_paints_204 (by decide) rfl ?_
            obtain ⟨n28, h⟩ := h
            refine w_L_paints_L206 K y2 r3 r4 v18 v20 land there near worn trial fits ways joined hE hN hst _ n28 (0 : Int32) (0 : Int32) h (fun v29 h => ?_)
            refine x_aload_n (pc := 287) K dL_paints_287 0 rfl rfl ?_
            refine x_iload (pc := 288) K dL_paints_288 2 rfl ?_
            refine x_iload (pc := 290) K dL_paints_290 3 rfl ?_
            refine x_iload (pc := 292) K dL_paints_292 4 rfl ?_
            refine x_iload (pc := 294) K dL_paints_294 5 rfl ?_
            refine x_iload_n (pc := 296) K dL_paints_296 1 rfl rfl ?_
            refine x_hcallSi (pc := 297) (n := 6) K hE hN (by decide) (c_L_paintBlock l D cI cJ cZ cA hst V r3 r4 v18 v20 y2 land there near worn trial fits ways joined _ h) rfl rfl gL_paints_L_paintBlock rfl (by decide +kernel) ⟨Nat.le_of_ble_eq_true rfl, Nat.le_of_ble_eq_true rfl⟩ rfl (av := [.ref (V 0), .int r3, .int r4, .int v18, .int v20, .int y2]) rfl (Nat.le_of_ble_eq_true rfl) [0, 1, 2, 3, 4, 5, 6, 7, 8, 9, 10, 11, 12, 13, 14, 15, 16, 17] [] (wr := []) rfl rfl rfl rfl (by decide) dL_paints_297 ⟨Nat.le_of_ble_eq_true rfl, Nat.le_of_ble_eq_true rfl⟩ (fun r33 u9 h => ?_)
            obtain ⟨land_30, there_31, near_32⟩ := u9
            refine x_wsub (ws' := (wX0J cI cJ cZ cA V land_30 there_31 near_32 worn trial fits ways joined)) [0, 1, 2, 3, 4, 5, 6, 7, 8, 9, 10, 11, 12, 13, 14, 15, 16, 17] rfl rfl ?_
            refine x_iload (pc := 300) K dL_paints_300 6 rfl ?_
            refine x_icmp_ne (pc := 302) K dL_paints_302 (tgt := 381) (by decide) (fun c9 => ?_) (fun c9 => ?_)
            · have h := h.1 c9
              refine x_keep [false, false, false, false, false, false, false] rfl ?_
              refine x_iconst (v := (0)) (pc := 381) K dL_paints_381 (by decide) ?_
              refine x_widen (k := 20) (n := 120) (Nat.le_of_ble_eq_true rfl) (Nat.le_of_ble_eq_true rfl) ?_
              exact hX (0 : Int32) (land_30, there_31, near_32) _ _ h.2 h.1 dL_paints_382
            · have h := h.2 c9
              refine x_keep [true, true, true, true, true, true, false] rfl ?_
              refine x_aload_n (pc := 305) K dL_paints_305 0 rfl rfl ?_
              refine x_iload (pc := 306) K dL_paints_306 2 rfl ?_
              refine x_iload (pc := 308) K dL_paints_308 3 rfl ?_
              refine x_iload (pc := 310) K dL_paints_310 4 rfl ?_
              refine x_iload (pc := 312) K dL_paints_312 5 rfl ?_
              refine x_iload_n (pc := 314) K dL_paints_314 1 rfl rfl ?_
              refine x_hcallSi (pc := 315) (n := 6) K hE hN (by decide) (c_L_paintBlock l D cI cJ cZ cA hst V r3 r4 v18 v20 y2 land_30 there_31 near_32 worn trial fits ways joined _ h) rfl rfl gL_paints_L_paintBlock rfl (by decide +kernel) ⟨Nat.le_of_ble_eq_true rfl, Nat.le_of_ble_eq_true rfl⟩ rfl (av := [.ref (V 0), .int r3, .int r4, .int v18, .int v20, .int y2]) rfl (Nat.le_of_ble_eq_true rfl) [0, 1, 2, 3, 4, 5, 6, 7, 8, 9, 10, 11, 12, 13, 14, 15, 16, 17] [] (wr := []) rfl rfl rfl rfl (by decide) dL_paints_315 ⟨Nat.le_of_ble_eq_true rfl, Nat.le_of_ble_eq_true rfl⟩ (fun r37 u9 h => ?_)
              obtain ⟨land_34, there_35, near_36⟩ := u9
              refine x_wsub (ws' := (wX0J cI cJ cZ cA V land_34 there_35 near_36 worn trial fits ways joined)) [0, 1, 2, 3, 4, 5, 6, 7, 8, 9, 10, 11, 12, 13, 14, 15, 16, 17] rfl rfl ?_
              refine x_if_ne (pc := 318) K dL_paints_318 (tgt := 381) (by decide) (fun c9 => ?_) (fun c9 => ?_)
              · have h := h.1 c9
                refine x_keep [false, false, false, false, false, false] rfl ?_
                refine x_iconst (v := (0)) (pc := 381) K dL_paints_381 (by decide) ?_
                refine x_widen (k := 20) (n := 120) (Nat.le_of_ble_eq_true rfl) (Nat.le_of_ble_eq_true rfl) ?_
                exact hX (0 : Int32) (land_34, there_35, near_36) _ _ h.2 h.1 dL_paints_382
              · have h := h.2 c9
                refine x_keep [true, true, false, false, true, true] rfl ?_
                refine x_aload_n (pc := 321) K dL_paints_321 0 rfl rfl ?_
                refine x_iload (pc := 322) K dL_paints_322 2 rfl ?_
                refine x_iload (pc := 324) K dL_paints_324 3 rfl ?_
                refine x_wcallSi (pc := 326) (n := 3) K (c0_L_countryAt l D cI cJ cZ cA V v18 v20 land_34 there_35 near_36 worn trial fits ways joined _ h) rfl rfl gL_paints_L_countryAt rfl (by decide +kernel) ⟨Nat.le_of_ble_eq_true rfl, Nat.le_of_ble_eq_true rfl⟩ rfl (av := [.ref (V 0), .int v18, .int v20]) rfl (Nat.le_of_ble_eq_true rfl) [0, 1, 2, 3, 4, 5, 6, 7, 8, 9, 10, 11, 12, 13, 14, 15, 16, 17] [] (wr := []) rfl rfl rfl rfl (by decide) dL_paints_326 ⟨Nat.le_of_ble_eq_true rfl, Nat.le_of_ble_eq_true rfl⟩ (fun r38 u9 h => ?_)
                refine x_wsub (ws' := (wX0J cI cJ cZ cA V land_34 there_35 near_36 worn trial fits ways joined)) [0, 1, 2, 3, 4, 5, 6, 7, 8, 9, 10, 11, 12, 13, 14, 15, 16, 17] rfl rfl ?_
                refine x_iload_n (pc := 329) K dL_paints_329 1 rfl rfl ?_
                refine x_icmp_ne (pc := 330) K dL_paints_330 (tgt := 381) (by decide) (fun c9 => ?_) (fun c9 => ?_)
                · have h := h.1 c9
                  refine x_keep [false, false, false, false] rfl ?_
                  refine x_iconst (v := (0)) (pc := 381) K dL_paints_381 (by decide) ?_
                  refine x_widen (k := 20) (n := 120) (Nat.le_of_ble_eq_true rfl) (Nat.le_of_ble_eq_true rfl) ?_
                  exact hX (0 : Int32) (land_34, there_35, near_36) _ _ h.2 h.1 dL_paints_382
                · have h := h.2 c9
                  refine x_keep [true, false, false, false] rfl ?_
                  refine x_aload_n (pc := 333) K dL_paints_333 0 rfl rfl ?_
                  refine x_iconst (v := (1)) (pc := 334) K dL_paints_334 (by decide) ?_
                  refine x_iconst (v := (1)) (pc := 335) K dL_paints_335 (by decide) ?_
                  refine x_iconst (v := (0)) (pc := 336) K dL_paints_336 (by decide) ?_
                  refine x_iconst (v := (1)) (pc := 337) K dL_paints_337 (by decide) ?_
                  refine x_iconst (v := (0)) (pc := 338) K dL_paints_338 (by decide) ?_
                  refine x_hcallSi (pc := 339) (n := 6) K hE hN (by decide) (c_L_paintBlock l D cI cJ cZ cA hst V (1 : Int32) (1 : Int32) (0 : Int32) (1 : Int32) (0 : Int32) land_34 there_35 near_36 worn trial fits ways joined _ h) rfl rfl gL_paints_L_paintBlock rfl (by decide +kernel) ⟨Nat.le_of_ble_eq_true rfl, Nat.le_of_ble_eq_true rfl⟩ rfl (av := [.ref (V 0), .int (1 : Int32), .int (1 : Int32), .int (0 : Int32), .int (1 : Int32), .int (0 : Int32)]) rfl (Nat.le_of_ble_eq_true rfl) [0, 1, 2, 3, 4, 5, 6, 7, 8, 9, 10, 11, 12, 13, 14, 15, 16, 17] [] (wr := []) rfl rfl rfl rfl (by decide) dL_paints_339 ⟨Nat.le_of_ble_eq_true rfl, Nat.le_of_ble_eq_true rfl⟩ (fun r42 u9 h => ?_)
                  obtain ⟨land_39, there_40, near_41⟩ := u9
                  refine x_wsub (ws' := (wX0J cI cJ cZ cA V land_39 there_40 near_41 worn trial fits ways joined)) [0, 1, 2, 3, 4, 5, 6, 7, 8, 9, 10, 11, 12, 13, 14, 15, 16, 17] rfl rfl ?_
                  refine x_ldc (pc := 342) (v := (-1000002)) K kL_paints_0 dL_paints_342 ?_
                  refine x_icmp_ne (pc := 344) K dL_paints_344 (tgt := 381) (by decide) (fun c9 => ?_) (fun c9 => ?_)
                  · have h := h.1 c9
                    refine x_keep [false] rfl ?_
                    refine x_iconst (v := (0)) (pc := 381) K dL_paints_381 (by decide) ?_
                    refine x_widen (k := 20) (n := 120) (Nat.le_of_ble_eq_true rfl) (Nat.le_of_ble_eq_true rfl) ?_
                    exact hX (0 : Int32) (land_39, there_40, near_41) _ _ h.2 h.1 dL_paints_382
                  · have h := h.2 c9
                    refine x_aload_n (pc := 347) K dL_paints_347 0 rfl rfl ?_
                    refine x_iconst (v := (0)) (pc := 348) K dL_paints_348 (by decide) ?_
                    refine x_iconst (v := (0)) (pc := 349) K dL_paints_349 (by decide) ?_
                    refine x_bipush (v := (6)) (pc := 350) K dL_paints_350 (by decide) ?_
                    refine x_iconst (v := (0)) (pc := 352) K dL_paints_352 (by decide) ?_
                    refine x_bipush (v := (10)) (pc := 353) K dL_paints_353 (by decide) ?_
                    refine x_hcallSi (pc := 355) (n := 6) K hE hN (by decide) (c_L_paintBlock l D cI cJ cZ cA hst V (0 : Int32) (0 : Int32) (6 : Int32) (0 : Int32) (10 : Int32) land_39 there_40 near_41 worn trial fits ways joined _ h) rfl rfl gL_paints_L_paintBlock rfl (by decide +kernel) ⟨Nat.le_of_ble_eq_true rfl, Nat.le_of_ble_eq_true rfl⟩ rfl (av := [.ref (V 0), .int (0 : Int32), .int (0 : Int32), .int (6 : Int32), .int (0 : Int32), .int (10 : Int32)]) rfl (Nat.le_of_ble_eq_true rfl) [0, 1, 2, 3, 4, 5, 6, 7, 8, 9, 10, 11, 12, 13, 14, 15, 16, 17] [] (wr := []) rfl rfl rfl rfl (by decide) dL_paints_355 ⟨Nat.le_of_ble_eq_true rfl, Nat.le_of_ble_eq_true rfl⟩ (fun r46 u9 h => ?_)
                    obtain ⟨land_43, there_44, near_45⟩ := u9
                    refine x_wsub (ws' := (wX0J cI cJ cZ cA V land_43 there_44 near_45 worn trial fits ways joined)) [0, 1, 2, 3, 4, 5, 6, 7, 8, 9, 10, 11, 12, 13, 14, 15, 16, 17] rfl rfl ?_
                    refine x_ldc (pc := 358) (v := (-1000001)) K kL_paints_1 dL_paints_358 ?_
                    refine x_icmp_ne (pc := 360) K dL_paints_360 (tgt := 381) (by decide) (fun c9 => ?_) (fun c9 => ?_)
                    · have h := h.1 c9
                      refine x_keep [false] rfl ?_
                      refine x_iconst (v := (0)) (pc := 381) K dL_paints_381 (by decide) ?_
                      refine x_widen (k := 20) (n := 120) (Nat.le_of_ble_eq_true rfl) (Nat.le_of_ble_eq_true rfl) ?_
                      exact hX (0 : Int32) (land_43, there_44, near_45) _ _ h.2 h.1 dL_paints_382
                    · have h := h.2 c9
                      refine x_aload_n (pc := 363) K dL_paints_363 0 rfl rfl ?_
                      refine x_iconst (v := (2)) (pc := 364) K dL_paints_364 (by decide) ?_
                      refine x_iconst (v := (3)) (pc := 365) K dL_paints_365 (by decide) ?_
                      refine x_iconst (v := (2)) (pc := 366) K dL_paints_366 (by decide) ?_
                      refine x_iconst (v := (2)) (pc := 367) K dL_paints_367 (by decide) ?_
                      refine x_iconst (v := (0)) (pc := 368) K dL_paints_368 (by decide) ?_
                      refine x_hcallSi (pc := 369) (n := 6) K hE hN (by decide) (c_L_paintBlock l D cI cJ cZ cA hst V (2 : Int32) (3 : Int32) (2 : Int32) (2 : Int32) (0 : Int32) land_43 there_44 near_45 worn trial fits ways joined _ h) rfl rfl gL_paints_L_paintBlock rfl (by decide +kernel) ⟨Nat.le_of_ble_eq_true rfl, Nat.le_of_ble_eq_true rfl⟩ rfl (av := [.ref (V 0), .int (2 : Int32), .int (3 : Int32), .int (2 : Int32), .int (2 : Int32), .int (0 : Int32)]) rfl (Nat.le_of_ble_eq_true rfl) [0, 1, 2, 3, 4, 5, 6, 7, 8, 9, 10, 11, 12, 13, 14, 15, 16, 17] [] (wr := []) rfl rfl rfl rfl (by decide) dL_paints_369 ⟨Nat.le_of_ble_eq_true rfl, Nat.le_of_ble_eq_true rfl⟩ (fun r50 u9 h => ?_)
                      obtain ⟨land_47, there_48, near_49⟩ := u9
                      refine x_wsub (ws' := (wX0J cI cJ cZ cA V land_47 there_48 near_49 worn trial fits ways joined)) [0, 1, 2, 3, 4, 5, 6, 7, 8, 9, 10, 11, 12, 13, 14, 15, 16, 17] rfl rfl ?_
                      refine x_ldc (pc := 372) (v := (-1000002)) K kL_paints_0 dL_paints_372 ?_
                      refine x_icmp_ne (pc := 374) K dL_paints_374 (tgt := 381) (by decide) (fun c9 => ?_) (fun c9 => ?_)
                      · have h := h.1 c9
                        refine x_keep [false] rfl ?_
                        refine x_iconst (v := (0)) (pc := 381) K dL_paints_381 (by decide) ?_
                        exact hX (0 : Int32) (land_47, there_48, near_49) _ _ h.2 h.1 dL_paints_382
                      · have h := h.2 c9
                        refine x_keep [false] rfl ?_
                        refine x_iconst (v := (1)) (pc := 377) K dL_paints_377 (by decide) ?_
                        refine x_goto (pc := 378) K dL_paints_378 (tgt := 382) (by decide) ?_
                        exact hX (1 : Int32) (land_47, there_48, near_49) _ _ h.2 h.1 dL_paints_382
          refine x_icmp_le (pc := 189) K dL_paints_189 (tgt := 196) (by decide) (fun c9 => ?_) (fun c9 => ?_)
          · have h := h.1 c9
            refine x_iload (pc := 196) K dL_paints_196 5 rfl ?_
            refine x_keep [true, true, true, true, true, false] rfl ?_
            exact kJ19 y16 h
          · have h := h.2 c9
            refine x_keep [true, true, true, true, true, false] rfl ?_
            refine x_iconst (v := (5)) (pc := 192) K dL_paints_192 (by decide) ?_
            refine x_goto (pc := 193) K dL_paints_193 (tgt := 198) (by decide) ?_
            exact kJ19 (5 : Int32) h
        refine x_icmp_le (pc := 175) K dL_paints_175 (tgt := 182) (by decide) (fun c9 => ?_) (fun c9 => ?_)
        · have h := h.1 c9
          refine x_iload (pc := 182) K dL_paints_182 4 rfl ?_
          refine x_keep [true, true, true, true, false, true] rfl ?_
          exact kJ17 y11 h
        · have h := h.2 c9
          refine x_keep [true, true, true, true, false, true] rfl ?_
          refine x_iconst (v := (5)) (pc := 178) K dL_paints_178 (by decide) ?_
          refine x_goto (pc := 179) K dL_paints_179 (tgt := 184) (by decide) ?_
          exact kJ17 (5 : Int32) h
      refine x_if_ne (pc := 154) K dL_paints_154 (tgt := 165) (by decide) (fun c9 => ?_) (fun c9 => ?_)
      · have h := h.1 c9
        refine x_keep [true, false, false, true, true, true, true] rfl ?_
        refine x_iconst (v := (2)) (pc := 165) K dL_paints_165 (by decide) ?_
        exact kJ13 (2 : Int32) h
      · have h := h.2 c9
        refine x_keep [true, false, false, true, true, true, true] rfl ?_
        refine x_bipush (v := (6)) (pc := 157) K dL_paints_157 (by decide) ?_
        refine x_iload (pc := 159) K dL_paints_159 3 rfl ?_
        refine x_isub (pc := 161) K dL_paints_161 ?_
        refine x_goto (pc := 162) K dL_paints_162 (tgt := 166) (by decide) ?_
        exact kJ13 ((6 : Int32) - r4) h
    refine x_if_ne (pc := 122) K dL_paints_122 (tgt := 133) (by decide) (fun c9 => ?_) (fun c9 => ?_)
    · have h := h.1 c9
      refine x_iconst (v := (2)) (pc := 133) K dL_paints_133 (by decide) ?_
      exact kJ8 (2 : Int32) h
    · have h := h.2 c9
      refine x_bipush (v := (6)) (pc := 125) K dL_paints_125 (by decide) ?_
      refine x_iload (pc := 127) K dL_paints_127 4 rfl ?_
      refine x_isub (pc := 129) K dL_paints_129 ?_
      refine x_goto (pc := 130) K dL_paints_130 (tgt := 134) (by decide) ?_
      exact kJ8 ((6 : Int32) - r3) h
  · have h := h.2 c9
    refine x_keep [true, false, false, true, true, true, true] rfl ?_
    refine x_aload_n (pc := 47) K dL_paints_47 0 rfl rfl ?_
    refine x_iload (pc := 48) K dL_paints_48 2 rfl ?_
    refine x_iload (pc := 50) K dL_paints_50 3 rfl ?_
    refine x_iload_n (pc := 52) K dL_paints_52 1 rfl rfl ?_
    refine x_hcallSi (pc := 53) (n := 4) K hE hN (by decide) (c_L_paint l D cI cJ cZ cA hst V r3 r4 y2 land there near worn trial fits ways joined _ h) rfl rfl gL_paints_L_paint rfl (by decide +kernel) ⟨Nat.le_of_ble_eq_true rfl, Nat.le_of_ble_eq_true rfl⟩ rfl (av := [.ref (V 0), .int r3, .int r4, .int y2]) rfl (Nat.le_of_ble_eq_true rfl) [0, 1, 2, 3, 4, 5, 6, 7, 8, 9, 10, 11, 12, 13, 14, 15, 16, 17] [] (wr := []) rfl rfl rfl rfl (by decide) dL_paints_53 ⟨Nat.le_of_ble_eq_true rfl, Nat.le_of_ble_eq_true rfl⟩ (fun r54 u9 h => ?_)
    obtain ⟨land_51, there_52, near_53⟩ := u9
    refine x_wsub (ws' := (wX0J cI cJ cZ cA V land_51 there_52 near_53 worn trial fits ways joined)) [0, 1, 2, 3, 4, 5, 6, 7, 8, 9, 10, 11, 12, 13, 14, 15, 16, 17] rfl rfl ?_
    refine x_iload (pc := 56) K dL_paints_56 4 rfl ?_
    refine x_icmp_ne (pc := 58) K dL_paints_58 (tgt := 106) (by decide) (fun c9 => ?_) (fun c9 => ?_)
    · have h := h.1 c9
      refine x_keep [false, false, false, false, false] rfl ?_
      refine x_iconst (v := (0)) (pc := 106) K dL_paints_106 (by decide) ?_
      refine x_widen (k := 20) (n := 120) (Nat.le_of_ble_eq_true rfl) (Nat.le_of_ble_eq_true rfl) ?_
      exact hX (0 : Int32) (land_51, there_52, near_53) _ _ h.2 h.1 dL_paints_107
    · have h := h.2 c9
      refine x_keep [true, true, true, true, false] rfl ?_
      refine x_aload_n (pc := 61) K dL_paints_61 0 rfl rfl ?_
      refine x_iload (pc := 62) K dL_paints_62 2 rfl ?_
      refine x_iload (pc := 64) K dL_paints_64 3 rfl ?_
      refine x_wcallSi (pc := 66) (n := 3) K (c0_L_countryAt l D cI cJ cZ cA V r3 r4 land_51 there_52 near_53 worn trial fits ways joined _ h) rfl rfl gL_paints_L_countryAt rfl (by decide +kernel) ⟨Nat.le_of_ble_eq_true rfl, Nat.le_of_ble_eq_true rfl⟩ rfl (av := [.ref (V 0), .int r3, .int r4]) rfl (Nat.le_of_ble_eq_true rfl) [0, 1, 2, 3, 4, 5, 6, 7, 8, 9, 10, 11, 12, 13, 14, 15, 16, 17] [] (wr := []) rfl rfl rfl rfl (by decide) dL_paints_66 ⟨Nat.le_of_ble_eq_true rfl, Nat.le_of_ble_eq_true rfl⟩ (fun r55 u9 h => ?_)
      refine x_wsub (ws' := (wX0J cI cJ cZ cA V land_51 there_52 near_53 worn trial fits ways joined)) [0, 1, 2, 3, 4, 5, 6, 7, 8, 9, 10, 11, 12, 13, 14, 15, 16, 17] rfl rfl ?_
      refine x_iload_n (pc := 69) K dL_paints_69 1 rfl rfl ?_
      refine x_icmp_ne (pc := 70) K dL_paints_70 (tgt := 106) (by decide) (fun c9 => ?_) (fun c9 => ?_)
      · have h := h.1 c9
        refine x_keep [false, false, false, false] rfl ?_
        refine x_iconst (v := (0)) (pc := 106) K dL_paints_106 (by decide) ?_
        refine x_widen (k := 20) (n := 120) (Nat.le_of_ble_eq_true rfl) (Nat.le_of_ble_eq_true rfl) ?_
        exact hX (0 : Int32) (land_51, there_52, near_53) _ _ h.2 h.1 dL_paints_107
      · have h := h.2 c9
        refine x_keep [true, false, true, true] rfl ?_
        refine x_aload_n (pc := 73) K dL_paints_73 0 rfl rfl ?_
        refine x_iload (pc := 74) K dL_paints_74 1 rfl ?_
        refine x_iload (pc := 76) K dL_paints_76 2 rfl ?_
        refine x_bipush (v := (10)) (pc := 78) K dL_paints_78 (by decide) ?_
        refine x_hcallSi (pc := 80) (n := 4) K hE hN (by decide) (c_L_paint l D cI cJ cZ cA hst V r3 r4 (10 : Int32) land_51 there_52 near_53 worn trial fits ways joined _ h) rfl rfl gL_paints_L_paint rfl (by decide +kernel) ⟨Nat.le_of_ble_eq_true rfl, Nat.le_of_ble_eq_true rfl⟩ rfl (av := [.ref (V 0), .int r3, .int r4, .int (10 : Int32)]) rfl (Nat.le_of_ble_eq_true rfl) [0, 1, 2, 3, 4, 5, 6, 7, 8, 9, 10, 11, 12, 13, 14, 15, 16, 17] [] (wr := []) rfl rfl rfl rfl (by decide) dL_paints_80 ⟨Nat.le_of_ble_eq_true rfl, Nat.le_of_ble_eq_true rfl⟩ (fun r59 u9 h => ?_)
        obtain ⟨land_56, there_57, near_58⟩ := u9
        refine x_wsub (ws' := (wX0J cI cJ cZ cA V land_56 there_57 near_58 worn trial fits ways joined)) [0, 1, 2, 3, 4, 5, 6, 7, 8, 9, 10, 11, 12, 13, 14, 15, 16, 17] rfl rfl ?_
        refine x_ldc (pc := 83) (v := (-1000002)) K kL_paints_0 dL_paints_83 ?_
        refine x_icmp_ne (pc := 85) K dL_paints_85 (tgt := 106) (by decide) (fun c9 => ?_) (fun c9 => ?_)
        · have h := h.1 c9
          refine x_keep [false, false, false] rfl ?_
          refine x_iconst (v := (0)) (pc := 106) K dL_paints_106 (by decide) ?_
          refine x_widen (k := 20) (n := 120) (Nat.le_of_ble_eq_true rfl) (Nat.le_of_ble_eq_true rfl) ?_
          exact hX (0 : Int32) (land_56, there_57, near_58) _ _ h.2 h.1 dL_paints_107
        · have h := h.2 c9
          refine x_keep [true, false, false] rfl ?_
          refine x_aload_n (pc := 88) K dL_paints_88 0 rfl rfl ?_
          refine x_bipush (v := (6)) (pc := 89) K dL_paints_89 (by decide) ?_
          refine x_iconst (v := (0)) (pc := 91) K dL_paints_91 (by decide) ?_
          refine x_bipush (v := (-2)) (pc := 92) K dL_paints_92 (by decide) ?_
          refine x_hcallSi (pc := 94) (n := 4) K hE hN (by decide) (c_L_paint l D cI cJ cZ cA hst V (6 : Int32) (0 : Int32) (-2 : Int32) land_56 there_57 near_58 worn trial fits ways joined _ h) rfl rfl gL_paints_L_paint rfl (by decide +kernel) ⟨Nat.le_of_ble_eq_true rfl, Nat.le_of_ble_eq_true rfl⟩ rfl (av := [.ref (V 0), .int (6 : Int32), .int (0 : Int32), .int (-2 : Int32)]) rfl (Nat.le_of_ble_eq_true rfl) [0, 1, 2, 3, 4, 5, 6, 7, 8, 9, 10, 11, 12, 13, 14, 15, 16, 17] [] (wr := []) rfl rfl rfl rfl (by decide) dL_paints_94 ⟨Nat.le_of_ble_eq_true rfl, Nat.le_of_ble_eq_true rfl⟩ (fun r63 u9 h => ?_)
          obtain ⟨land_60, there_61, near_62⟩ := u9
          refine x_wsub (ws' := (wX0J cI cJ cZ cA V land_60 there_61 near_62 worn trial fits ways joined)) [0, 1, 2, 3, 4, 5, 6, 7, 8, 9, 10, 11, 12, 13, 14, 15, 16, 17] rfl rfl ?_
          refine x_ldc (pc := 97) (v := (-1000001)) K kL_paints_1 dL_paints_97 ?_
          refine x_icmp_ne (pc := 99) K dL_paints_99 (tgt := 106) (by decide) (fun c9 => ?_) (fun c9 => ?_)
          · have h := h.1 c9
            refine x_keep [false] rfl ?_
            refine x_iconst (v := (0)) (pc := 106) K dL_paints_106 (by decide) ?_
            refine x_widen (k := 20) (n := 120) (Nat.le_of_ble_eq_true rfl) (Nat.le_of_ble_eq_true rfl) ?_
            exact hX (0 : Int32) (land_60, there_61, near_62) _ _ h.2 h.1 dL_paints_107
          · have h := h.2 c9
            refine x_keep [false] rfl ?_
            refine x_iconst (v := (1)) (pc := 102) K dL_paints_102 (by decide) ?_
            refine x_goto (pc := 103) K dL_paints_103 (tgt := 107) (by decide) ?_
            refine x_widen (k := 20) (n := 120) (Nat.le_of_ble_eq_true rfl) (Nat.le_of_ble_eq_true rfl) ?_
            exact hX (1 : Int32) (land_60, there_61, near_62) _ _ h.2 h.1 dL_paints_107
