abbrev rm_L_looks : Room := { frames := 15, cells := 7, slots := 134, locals := 400 }
theorem kL_looks_0 : Cond.arrayClass .int ∈ wsL_looks := by decide +kernel
theorem kL_looks_1 : Cond.constant RL 18 (-1000001) ∈ wsL_looks := by decide +kernel
def q_L_looks_L19 (P0 : (Nat → Int32) → Prop) : Nat → Int32 → (Nat → Int32) → Prop
  | 0, _, _ => False
  | n + 1, x5, nb => (((10 : Int32) ≤ x5 → P0 nb) ∧ (¬ (10 : Int32) ≤ x5 → xin x5 10 = true ∧ q_L_looks_L19 P0 n (x5 + (1 : Int32)) (upd nb x5.toNatClampNeg (0 : Int32))))
def q_L_looks_L81 (u5 : Int32) (u6 : Int32) (land : Nat → Int64) (P0 : (Nat → Int32) → (Nat → Int32) → (Nat → Int32) → Prop) : Nat → Int32 → (Nat → Int32) → (Nat → Int32) → (Nat → Int32) → Prop
  | 0, _, _, _, _ => False
  | n + 1, x7, nb, border, rest => (((4 : Int32) ≤ x7 → P0 nb border rest) ∧ (¬ (4 : Int32) ≤ x7 → ((u6 < (0 : Int32) → P0 nb border rest) ∧ (¬ u6 < (0 : Int32) → xj1 (fun (v6 : Int32) => xj1 (fun (v8 : Int32) => q_L_cell ((u5 / (6 : Int32)) + v6) ((u5 - u5 / (6 : Int32) * (6 : Int32)) + v8) land (fun (r9 : Int32) => ((r9 < (0 : Int32) → q_L_looks_L81 u5 u6 land P0 n (x7 + (1 : Int32)) nb border rest) ∧ (¬ r9 < (0 : Int32) → ((r9 = u6 → q_L_looks_L81 u5 u6 land P0 n (x7 + (1 : Int32)) nb border rest) ∧ (¬ r9 = u6 → xin u6 10 = true ∧ xin u6 10 = true ∧ xin (((10 : Int32) * (u6 - u6 / (5 : Int32) * (5 : Int32))) + r9) 50 = true ∧ xj1 (fun (v12 : Int32) => xin (((10 : Int32) * (u6 - u6 / (5 : Int32) * (5 : Int32))) + r9) 50 = true ∧ xin (((10 : Int32) * (u6 - u6 / (5 : Int32) * (5 : Int32))) + r9) 50 = true ∧ (((5 : Int32) ≤ u6 → xin (((10 : Int32) * (u6 - u6 / (5 : Int32) * (5 : Int32))) + r9) 50 = true ∧ q_L_looks_L81 u5 u6 land P0 n (x7 + (1 : Int32)) (upd nb u6.toNatClampNeg ((nb u6.toNatClampNeg) ||| ((1 : Int32) <<< (r9 &&& 31)))) (upd border ((((10 : Int32) * (u6 - u6 / (5 : Int32) * (5 : Int32))) + r9).toNatClampNeg) ((border (((10 : Int32) * (u6 - u6 / (5 : Int32) * (5 : Int32))) + r9).toNatClampNeg) + v12)) (upd rest ((((10 : Int32) * (u6 - u6 / (5 : Int32) * (5 : Int32))) + r9).toNatClampNeg) ((rest (((10 : Int32) * (u6 - u6 / (5 : Int32) * (5 : Int32))) + r9).toNatClampNeg) + (1 : Int32)))) ∧ (¬ (5 : Int32) ≤ u6 → xin (((10 : Int32) * (u6 - u6 / (5 : Int32) * (5 : Int32))) + r9) 50 = true ∧ q_L_looks_L81 u5 u6 land P0 n (x7 + (1 : Int32)) (upd nb u6.toNatClampNeg ((nb u6.toNatClampNeg) ||| ((1 : Int32) <<< (r9 &&& 31)))) (upd border ((((10 : Int32) * (u6 - u6 / (5 : Int32) * (5 : Int32))) + r9).toNatClampNeg) ((border (((10 : Int32) * (u6 - u6 / (5 : Int32) * (5 : Int32))) + r9).toNatClampNeg) + v12)) (upd rest ((((10 : Int32) * (u6 - u6 / (5 : Int32) * (5 : Int32))) + r9).toNatClampNeg) ((rest (((10 : Int32) * (u6 - u6 / (5 : Int32) * (5 : Int32))) + r9).toNatClampNeg) + (0 : Int32)))))) (fun (J11 : Int32 → Prop) => (((5 : Int32) ≤ u6 → J11 (0 : Int32)) ∧ (¬ (5 : Int32) ≤ u6 → J11 (1 : Int32)))))))))) (fun (J7 : Int32 → Prop) => ((¬ x7 = (2 : Int32) → ((¬ x7 = (3 : Int32) → J7 (0 : Int32)) ∧ (x7 = (3 : Int32) → J7 (-1 : Int32)))) ∧ (x7 = (2 : Int32) → J7 (1 : Int32))))) (fun (J5 : Int32 → Prop) => ((¬ x7 = (0 : Int32) → ((¬ x7 = (1 : Int32) → J5 (0 : Int32)) ∧ (x7 = (1 : Int32) → J5 (-1 : Int32)))) ∧ (x7 = (0 : Int32) → J5 (1 : Int32))))))))
def q_L_looks_L40 (land : Nat → Int64) (P0 : (Nat → Int32) → (Nat → Int32) → (Nat → Int32) → (Nat → Int32) → Prop) (P1 : (Nat → Int32) → (Nat → Int32) → (Nat → Int32) → (Nat → Int32) → Prop) : Nat → Int32 → (Nat → Int32) → (Nat → Int32) → (Nat → Int32) → (Nat → Int32) → Prop
  | 0, _, _, _, _, _ => False
  | n + 1, x5, nb, area, border, rest => (((36 : Int32) ≤ x5 → P0 nb area border rest) ∧ (¬ (36 : Int32) ≤ x5 → q_L_cell (x5 / (6 : Int32)) (x5 - x5 / (6 : Int32) * (6 : Int32)) land (fun (r4 : Int32) => ((r4 < (-1 : Int32) → P1 nb area border rest) ∧ (¬ r4 < (-1 : Int32) → ((r4 ≤ (9 : Int32) → xj3 (fun (v17 : Nat → Int32) (v18 : Nat → Int32) (v19 : Nat → Int32) => xj1 (fun (v21 : Int32) => xin v21 10 = true ∧ (((0 : Int32) ≤ r4 → xin v21 10 = true ∧ q_L_looks_L40 land P0 P1 n (x5 + (1 : Int32)) v17 (upd area v21.toNatClampNeg ((area v21.toNatClampNeg) + (1 : Int32))) v18 v19) ∧ (¬ (0 : Int32) ≤ r4 → xin v21 10 = true ∧ q_L_looks_L40 land P0 P1 n (x5 + (1 : Int32)) v17 (upd area v21.toNatClampNeg ((area v21.toNatClampNeg) + (0 : Int32))) v18 v19))) (fun (J20 : Int32 → Prop) => (((0 : Int32) ≤ r4 → J20 r4) ∧ (¬ (0 : Int32) ≤ r4 → J20 (0 : Int32))))) (fun (J16 : (Nat → Int32) → (Nat → Int32) → (Nat → Int32) → Prop) => (∃ n24 : Nat, q_L_looks_L81 x5 r4 land (fun (v25 : Nat → Int32) (v26 : Nat → Int32) (v27 : Nat → Int32) => J16 v25 v26 v27) n24 (0 : Int32) nb border rest))) ∧ (¬ r4 ≤ (9 : Int32) → P1 nb area border rest)))))))
def q_L_looks_L441 (u6 : Int32) (land : Nat → Int64) (border : Nat → Int32) (rest : Nat → Int32) (P0 : Prop) (P1 : Prop) : Nat → Int32 → Prop
  | 0, _ => False
  | n + 1, x7 => (((10 : Int32) ≤ x7 → P0) ∧ (¬ (10 : Int32) ≤ x7 → q0_L_border u6 x7 land (fun (r53 : Int32) => xj1 (fun (v55 : Int32) => ((r53 = v55 → q_L_looks_L441 u6 land border rest P0 P1 n (x7 + (1 : Int32))) ∧ (¬ r53 = v55 → P1))) (fun (J54 : Int32 → Prop) => (((5 : Int32) ≤ u6 → xin (((10 : Int32) * (u6 - (5 : Int32))) + x7) 50 = true ∧ J54 (rest (((10 : Int32) * (u6 - (5 : Int32))) + x7).toNatClampNeg)) ∧ (¬ (5 : Int32) ≤ u6 → xin (((10 : Int32) * u6) + x7) 50 = true ∧ J54 (border (((10 : Int32) * u6) + x7).toNatClampNeg)))))))
def q_L_looks_L271 (land : Nat → Int64) (near : Nat → Int32) (nb : Nat → Int32) (area : Nat → Int32) (border : Nat → Int32) (rest : Nat → Int32) (P0 : Int32 → Prop) (P1 : Prop) (P2 : Prop) : Nat → Int32 → Int32 → Prop
  | 0, _, _ => False
  | n + 1, x5, x6 => (((10 : Int32) ≤ x6 → P0 x5) ∧ (¬ (10 : Int32) ≤ x6 → xin x6 10 = true ∧ xj1 (fun (v34 : Int32) => xl (x5 + v34) (fun y35 => q0_L_area x6 land (fun (r36 : Int32) => xin x6 10 = true ∧ ((¬ r36 = (area x6.toNatClampNeg) → P1) ∧ (r36 = (area x6.toNatClampNeg) → q0_L_neighbours x6 near (fun (r37 : Int32) => xin x6 10 = true ∧ q_L_many (nb x6.toNatClampNeg) (fun (r38 : Int32) => ((¬ r37 = r38 → P1) ∧ (r37 = r38 → q0_L_pieces x6 land (fun (r39 : Int32) => xin x6 10 = true ∧ xj1 (fun (v41 : Int32) => ((r39 < v41 → P1) ∧ (¬ r39 < v41 → q0_L_pieces x6 land (fun (r42 : Int32) => xin x6 10 = true ∧ (((area x6.toNatClampNeg) < r42 → P1) ∧ (¬ (area x6.toNatClampNeg) < r42 → q0_L_largestPiece x6 land (fun (r43 : Int32) => q0_L_pieces x6 land (fun (r44 : Int32) => xin x6 10 = true ∧ (((r43 * r44) < (area x6.toNatClampNeg) → P1) ∧ (¬ (r43 * r44) < (area x6.toNatClampNeg) → q0_L_largestPiece x6 land (fun (r45 : Int32) => q0_L_pieces x6 land (fun (r46 : Int32) => xin x6 10 = true ∧ xj0 (xin x6 10 = true ∧ xj1 (fun (v49 : Int32) => q0_L_largestPiece x6 land (fun (r50 : Int32) => xj1 (fun (v52 : Int32) => ((v49 = v52 → (∃ n56 : Nat, q_L_looks_L441 x6 land border rest (q_L_looks_L271 land near nb area border rest P0 P1 P2 n y35 (x6 + (1 : Int32))) (P2) n56 (0 : Int32))) ∧ (¬ v49 = v52 → P1))) (fun (J51 : Int32 → Prop) => ((¬ r50 = (0 : Int32) → J51 (0 : Int32)) ∧ (r50 = (0 : Int32) → J51 (1 : Int32)))))) (fun (J48 : Int32 → Prop) => ((¬ (area x6.toNatClampNeg) = (0 : Int32) → J48 (0 : Int32)) ∧ ((area x6.toNatClampNeg) = (0 : Int32) → J48 (1 : Int32))))) (fun (J47 : Prop) => (((r45 + r46) ≤ ((area x6.toNatClampNeg) + (1 : Int32)) → J47) ∧ (¬ (r45 + r46) ≤ ((area x6.toNatClampNeg) + (1 : Int32)) → xin x6 10 = true ∧ (((0 : Int32) < (area x6.toNatClampNeg) → P1) ∧ (¬ (0 : Int32) < (area x6.toNatClampNeg) → J47))))))))))))))))) (fun (J40 : Int32 → Prop) => (((area x6.toNatClampNeg) ≤ (0 : Int32) → J40 (0 : Int32)) ∧ (¬ (area x6.toNatClampNeg) ≤ (0 : Int32) → J40 (1 : Int32)))))))))))))) (fun (J33 : Int32 → Prop) => (((area x6.toNatClampNeg) ≤ (0 : Int32) → J33 (0 : Int32)) ∧ (¬ (area x6.toNatClampNeg) ≤ (0 : Int32) → J33 (1 : Int32))))))
def q_L_looks (land : Nat → Int64) (there : Int32) (near : Nat → Int32) (nb : Nat → Int32) (P : Int32 → (Nat → Int32) → Prop) : Prop := (∃ n2 : Nat, q_L_looks_L19 (fun (v3 : Nat → Int32) => (∃ n28 : Nat, q_L_looks_L40 land (fun (v29 : Nat → Int32) (v30 : Nat → Int32) (v31 : Nat → Int32) (v32 : Nat → Int32) => (∃ n57 : Nat, q_L_looks_L271 land near v29 v30 v31 v32 (fun (v58 : Int32) => q_X0_countries there (fun (r59 : Int32) => ((¬ r59 = v58 → (xbool (0 : Int32) ∧ P (0 : Int32) v29)) ∧ (r59 = v58 → q_L_area (10 : Int32) land (fun (r60 : Int32) => ((¬ r60 = (-1000001 : Int32) → (xbool (0 : Int32) ∧ P (0 : Int32) v29)) ∧ (r60 = (-1000001 : Int32) → q_L_border (0 : Int32) (-1 : Int32) land (fun (r61 : Int32) => ((¬ r61 = (-1000001 : Int32) → (xbool (0 : Int32) ∧ P (0 : Int32) v29)) ∧ (r61 = (-1000001 : Int32) → q_L_pieces (-1 : Int32) land (fun (r62 : Int32) => ((¬ r62 = (-1000001 : Int32) → (xbool (0 : Int32) ∧ P (0 : Int32) v29)) ∧ (r62 = (-1000001 : Int32) → (xbool (1 : Int32) ∧ P (1 : Int32) v29)))))))))))))) ((xbool (0 : Int32) ∧ P (0 : Int32) v29)) ((xbool (0 : Int32) ∧ P (0 : Int32) v29)) n57 (0 : Int32) (0 : Int32))) (fun (v63 : Nat → Int32) (v64 : Nat → Int32) (v65 : Nat → Int32) (v66 : Nat → Int32) => (xbool (0 : Int32) ∧ P (0 : Int32) v63)) n28 (0 : Int32) v3 (fun _ => 0) (fun _ => 0) (fun _ => 0))) n2 (0 : Int32) nb)
set_option maxHeartbeats 4000000 in
set_option maxRecDepth 100000 in
theorem w_L_looks_L19 {X : xC} {l : Launch} {D : va_G} {cI cJ cZ cA : ClassId} {V : Nat → Nat} {a_nb : Nat} {a_area : Nat} {a_border : Nat} {a_rest : Nat} (K : xk X l rm_L_looks D vwCl (xtys cI cJ cZ cA) cL_looks RL wsL_looks 9) (land : Nat → Int64) (there : Int32) (near : Nat → Int32) (worn : Nat → Int32) (trial : Nat → Int32) (fits : Nat → Int32) (ways : Nat → Int64) (joined : Nat → Nat → Int32) (area : Nat → Int32) (border : Nat → Int32) (rest : Nat → Int32) (hE : xEx X RX0 [(183, "there is no such country")]) (hN : xno X) (hst : l.stackTraces = false) (P0 : (Nat → Int32) → Prop) : ∀ (n : Nat) (x5 : Int32) (nb : Nat → Int32), q_L_looks_L19 P0 n x5 nb → (∀ (z0 : Nat → Int32), P0 z0 → xw X 3 110 37 [(0, .ref (V 0)), (1, .ref a_nb), (2, .ref a_area), (3, .ref a_border), (4, .ref a_rest)] [] ((wX0J cI cJ cZ cA V land there near worn trial fits ways joined) ++ [(a_nb, .inl (cI, 10, .inl z0)), (a_area, .inl (cI, 10, .inl area)), (a_border, .inl (cI, 50, .inl border)), (a_rest, .inl (cI, 50, .inl rest))])) → xw X 3 110 19 [(0, .ref (V 0)), (1, .ref a_nb), (2, .ref a_area), (3, .ref a_border), (4, .ref a_rest), (5, .int x5)] [] ((wX0J cI cJ cZ cA V land there near worn trial fits ways joined) ++ [(a_nb, .inl (cI, 10, .inl nb)), (a_area, .inl (cI, 10, .inl area)), (a_border, .inl (cI, 50, .inl border)), (a_rest, .inl (cI, 50, .inl rest))]) := by
  intro n
  induction n with
  | zero =>
    intro x5 nb h
    rw [q_L_looks_L19] at h
    exact h.elim
  | succ n ih =>
    intro x5 nb h k0
    rw [q_L_looks_L19] at h
    refine x_iload (pc := 19) K dL_looks_19 5 rfl ?_
    refine x_bipush (v := (10)) (pc := 21) K dL_looks_21 (by decide) ?_
    refine x_icmp_ge (pc := 23) K dL_looks_23 (tgt := 37) (by decide) (fun c9 => ?_) (fun c9 => ?_)
    · have h := h.1 c9
      refine x_keep [true, true, true, true, true, false] rfl ?_
      exact k0 nb h
    · have h := h.2 c9
      refine x_aload_n (pc := 26) K dL_looks_26 1 rfl rfl ?_
      refine x_iload (pc := 27) K dL_looks_27 5 rfl ?_
      refine x_iconst (v := (0)) (pc := 29) K dL_looks_29 (by decide) ?_
      have g9 := h.1
      replace h := h.2
      refine x_iast (ws' := ((wX0J cI cJ cZ cA V land there near worn trial fits ways joined) ++ [(a_nb, .inl (cI, 10, .inl (upd nb x5.toNatClampNeg (0 : Int32)))), (a_area, .inl (cI, 10, .inl area)), (a_border, .inl (cI, 50, .inl border)), (a_rest, .inl (cI, 50, .inl rest))])) (pc := 30) K 18 0 rfl rfl rfl g9 dL_looks_30 ?_
      clear g9
      refine x_iinc (v := x5 + (1 : Int32)) (lv' := [(0, .ref (V 0)), (1, .ref a_nb), (2, .ref a_area), (3, .ref a_border), (4, .ref a_rest), (5, .int (x5 + (1 : Int32)))]) (pc := 31) K dL_looks_31 (k := 5) rfl rfl (by decide) rfl ?_
      refine x_goto (pc := 34) K dL_looks_34 (tgt := 19) (by decide) ?_
      exact ih (x5 + (1 : Int32)) (upd nb x5.toNatClampNeg (0 : Int32)) h k0
set_option maxHeartbeats 4000000 in
set_option maxRecDepth 100000 in
theorem w_L_looks_L81 {X : xC} {l : Launch} {D : va_G} {cI cJ cZ cA : ClassId} {V : Nat → Nat} {a_nb : Nat} {a_area : Nat} {a_border : Nat} {a_rest : Nat} (K : xk X l rm_L_looks D vwCl (xtys cI cJ cZ cA) cL_looks RL wsL_looks 9) (u5 : Int32) (u6 : Int32) (land : Nat → Int64) (there : Int32) (near : Nat → Int32) (worn : Nat → Int32) (trial : Nat → Int32) (fits : Nat → Int32) (ways : Nat → Int64) (joined : Nat → Nat → Int32) (area : Nat → Int32) (hE : xEx X RX0 [(183, "there is no such country")]) (hN : xno X) (hst : l.stackTraces = false) (P0 : (Nat → Int32) → (Nat → Int32) → (Nat → Int32) → Prop) : ∀ (n : Nat) (x7 : Int32) (nb : Nat → Int32) (border : Nat → Int32) (rest : Nat → Int32), q_L_looks_L81 u5 u6 land P0 n x7 nb border rest → (∀ (z0 : Nat → Int32) (z1 : Nat → Int32) (z2 : Nat → Int32), P0 z0 z1 z2 → xw X 3 110 233 [(0, .ref (V 0)), (1, .ref a_nb), (2, .ref a_area), (3, .ref a_border), (4, .ref a_rest), (5, .int u5), (6, .int u6)] [] ((wX0J cI cJ cZ cA V land there near worn trial fits ways joined) ++ [(a_nb, .inl (cI, 10, .inl z0)), (a_area, .inl (cI, 10, .inl area)), (a_border, .inl (cI, 50, .inl z1)), (a_rest, .inl (cI, 50, .inl z2))])) → xw X 3 110 81 [(0, .ref (V 0)), (1, .ref a_nb), (2, .ref a_area), (3, .ref a_border), (4, .ref a_rest), (5, .int u5), (6, .int u6), (7, .int x7)] [] ((wX0J cI cJ cZ cA V land there near worn trial fits ways joined) ++ [(a_nb, .inl (cI, 10, .inl nb)), (a_area, .inl (cI, 10, .inl area)), (a_border, .inl (cI, 50, .inl border)), (a_rest, .inl (cI, 50, .inl rest))]) := by
  intro n
  induction n with
  | zero =>
    intro x7 nb border rest h
    rw [q_L_looks_L81] at h
    exact h.elim
  | succ n ih =>
    intro x7 nb border rest h k0
    rw [q_L_looks_L81] at h
    refine x_iload (pc := 81) K dL_looks_81 7 rfl ?_
    refine x_iconst (v := (4)) (pc := 83) K dL_looks_83 (by decide) ?_
    refine x_icmp_ge (pc := 84) K dL_looks_84 (tgt := 233) (by decide) (fun c9 => ?_) (fun c9 => ?_)
    · have h := h.1 c9
      refine x_keep [true, true, true, true, true, true, true, false] rfl ?_
      exact k0 nb border rest h
    · have h := h.2 c9
      refine x_iload (pc := 87) K dL_looks_87 6 rfl ?_
      refine x_if_lt (pc := 89) K dL_looks_89 (tgt := 233) (by decide) (fun c9 => ?_) (fun c9 => ?_)
      · have h := h.1 c9
        refine x_keep [true, true, true, true, true, true, true, false] rfl ?_
        exact k0 nb border rest h
      · have h := h.2 c9
        refine x_aload_n (pc := 92) K dL_looks_92 0 rfl rfl ?_
        refine x_iload (pc := 93) K dL_looks_93 5 rfl ?_
        refine x_bipush (v := (6)) (pc := 95) K dL_looks_95 (by decide) ?_
        refine x_idiv (pc := 97) K (by decide) dL_looks_97 ?_
        refine x_iload (pc := 98) K dL_looks_98 7 rfl ?_
        obtain ⟨J5, hJ5, h⟩ := xj1_o h
        have kJ5 : ∀ (v6 : Int32), J5 v6 → xw X 3 110 118 [(0, .ref (V 0)), (1, .ref a_nb), (2, .ref a_area), (3, .ref a_border), (4, .ref a_rest), (5, .int u5), (6, .int u6), (7, .int x7)] [.int v6, .int (u5 / (6 : Int32)), .ref (V 0)] ((wX0J cI cJ cZ cA V land there near worn trial fits ways joined) ++ [(a_nb, .inl (cI, 10, .inl nb)), (a_area, .inl (cI, 10, .inl area)), (a_border, .inl (cI, 50, .inl border)), (a_rest, .inl (cI, 50, .inl rest))]) := by
          intro v6 hj
          have h := hJ5 v6 hj
          refine x_iadd (pc := 118) K dL_looks_118 ?_
          refine x_iload (pc := 119) K dL_looks_119 5 rfl ?_
          refine x_bipush (v := (6)) (pc := 121) K dL_looks_121 (by decide) ?_
          refine x_irem (pc := 123) K (by decide) dL_looks_123 ?_
          refine x_iload (pc := 124) K dL_looks_124 7 rfl ?_
          refine x_iconst (v := (2)) (pc := 126) K dL_looks_126 (by decide) ?_
          obtain ⟨J7, hJ7, h⟩ := xj1_o h
          have kJ7 : ∀ (v8 : Int32), J7 v8 → xw X 3 110 145 [(0, .ref (V 0)), (1, .ref a_nb), (2, .ref a_area), (3, .ref a_border), (4, .ref a_rest), (5, .int u5), (6, .int u6), (7, .int x7)] [.int v8, .int (u5 - u5 / (6 : Int32) * (6 : Int32)), .int ((u5 / (6 : Int32)) + v6), .ref (V 0)] ((wX0J cI cJ cZ cA V land there near worn trial fits ways joined) ++ [(a_nb, .inl (cI, 10, .inl nb)), (a_area, .inl (cI, 10, .inl area)), (a_border, .inl (cI, 50, .inl border)), (a_rest, .inl (cI, 50, .inl rest))]) := by
            intro v8 hj
            have h := hJ7 v8 hj
            refine x_iadd (pc := 145) K dL_looks_145 ?_
            refine x_callSi (pc := 146) (n := 3) K (c_L_cell l D cI cJ cZ cA V ((u5 / (6 : Int32)) + v6) ((u5 - u5 / (6 : Int32) * (6 : Int32)) + v8) land there near worn trial fits ways joined _ h) rfl rfl gL_looks_L_cell rfl (by decide +kernel) ⟨Nat.le_of_ble_eq_true rfl, Nat.le_of_ble_eq_true rfl⟩ rfl (av := [.ref (V 0), .int ((u5 / (6 : Int32)) + v6), .int ((u5 - u5 / (6 : Int32) * (6 : Int32)) + v8)]) rfl (Nat.le_of_ble_eq_true rfl) [0, 1, 2, 3, 4, 5, 6, 7, 8, 9, 10, 11, 12, 13, 14, 15, 16, 17] [18, 19, 20, 21] (wr := [(a_nb, .inl (cI, 10, .inl nb)), (a_area, .inl (cI, 10, .inl area)), (a_border, .inl (cI, 50, .inl border)), (a_rest, .inl (cI, 50, .inl rest))]) rfl rfl rfl rfl (by decide) dL_looks_146 ⟨Nat.le_of_ble_eq_true rfl, Nat.le_of_ble_eq_true rfl⟩ (fun r9 u9 h => ?_)
            refine x_wsub (ws' := ((wX0J cI cJ cZ cA V land there near worn trial fits ways joined) ++ [(a_nb, .inl (cI, 10, .inl nb)), (a_area, .inl (cI, 10, .inl area)), (a_border, .inl (cI, 50, .inl border)), (a_rest, .inl (cI, 50, .inl rest))])) [4, 5, 6, 7, 8, 9, 10, 11, 12, 13, 14, 15, 16, 17, 18, 19, 20, 21, 0, 1, 2, 3] rfl rfl ?_
            refine x_istore (lv' := [(0, .ref (V 0)), (1, .ref a_nb), (2, .ref a_area), (3, .ref a_border), (4, .ref a_rest), (5, .int u5), (6, .int u6), (7, .int x7), (8, .int r9)]) (pc := 149) K dL_looks_149 (by decide) rfl ?_
            refine x_iload (pc := 151) K dL_looks_151 8 rfl ?_
            refine x_if_lt (pc := 153) K dL_looks_153 (tgt := 227) (by decide) (fun c9 => ?_) (fun c9 => ?_)
            · have h := h.1 c9
              refine x_keep [true, true, true, true, true, true, true, true, false] rfl ?_
              refine x_iinc (v := x7 + (1 : Int32)) (lv' := [(0, .ref (V 0)), (1, .ref a_nb), (2, .ref a_area), (3, .ref a_border), (4, .ref a_rest), (5, .int u5), (6, .int u6), (7, .int (x7 + (1 : Int32)))]) (pc := 227) K dL_looks_227 (k := 7) rfl rfl (by decide) rfl ?_
              refine x_goto (pc := 230) K dL_looks_230 (tgt := 81) (by decide) ?_
              exact ih (x7 + (1 : Int32)) nb border rest h k0
            · have h := h.2 c9
              refine x_iload (pc := 156) K dL_looks_156 8 rfl ?_
              refine x_iload (pc := 158) K dL_looks_158 6 rfl ?_
              refine x_icmp_eq (pc := 160) K dL_looks_160 (tgt := 227) (by decide) (fun c9 => ?_) (fun c9 => ?_)
              · have h := h.1 c9
                refine x_keep [true, true, true, true, true, true, true, true, false] rfl ?_
                refine x_iinc (v := x7 + (1 : Int32)) (lv' := [(0, .ref (V 0)), (1, .ref a_nb), (2, .ref a_area), (3, .ref a_border), (4, .ref a_rest), (5, .int u5), (6, .int u6), (7, .int (x7 + (1 : Int32)))]) (pc := 227) K dL_looks_227 (k := 7) rfl rfl (by decide) rfl ?_
                refine x_goto (pc := 230) K dL_looks_230 (tgt := 81) (by decide) ?_
                exact ih (x7 + (1 : Int32)) nb border rest h k0
              · have h := h.2 c9
                refine x_aload_n (pc := 163) K dL_looks_163 1 rfl rfl ?_
                refine x_iload (pc := 164) K dL_looks_164 6 rfl ?_
                refine x_dup2 (pc := 166) K dL_looks_166 rfl rfl ?_
                have g9 := h.1
                replace h := h.2
                refine x_iald (pc := 167) K 18 0 rfl rfl g9 dL_looks_167 ?_
                clear g9
                refine x_iconst (v := (1)) (pc := 168) K dL_looks_168 (by decide) ?_
                refine x_iload (pc := 169) K dL_looks_169 8 rfl ?_
                refine x_ishl (pc := 171) K dL_looks_171 ?_
                refine x_ior (pc := 172) K dL_looks_172 ?_
                have g9 := h.1
                replace h := h.2
                refine x_iast (ws' := ((wX0J cI cJ cZ cA V land there near worn trial fits ways joined) ++ [(a_nb, .inl (cI, 10, .inl (upd nb u6.toNatClampNeg ((nb u6.toNatClampNeg) ||| ((1 : Int32) <<< (r9 &&& 31)))))), (a_area, .inl (cI, 10, .inl area)), (a_border, .inl (cI, 50, .inl border)), (a_rest, .inl (cI, 50, .inl rest))])) (pc := 173) K 18 0 rfl rfl rfl g9 dL_looks_173 ?_
                clear g9
                refine x_aload_n (pc := 174) K dL_looks_174 3 rfl rfl ?_
                refine x_bipush (v := (10)) (pc := 175) K dL_looks_175 (by decide) ?_
                refine x_iload (pc := 177) K dL_looks_177 6 rfl ?_
                refine x_iconst (v := (5)) (pc := 179) K dL_looks_179 (by decide) ?_
                refine x_irem (pc := 180) K (by decide) dL_looks_180 ?_
                refine x_imul (pc := 181) K dL_looks_181 ?_
                refine x_iload (pc := 182) K dL_looks_182 8 rfl ?_
                refine x_iadd (pc := 184) K dL_looks_184 ?_
                refine x_dup2 (pc := 185) K dL_looks_185 rfl rfl ?_
                have g9 := h.1
                replace h := h.2
                refine x_iald (pc := 186) K 20 0 rfl rfl g9 dL_looks_186 ?_
                clear g9
                refine x_iload (pc := 187) K dL_looks_187 6 rfl ?_
                refine x_iconst (v := (5)) (pc := 189) K dL_looks_189 (by decide) ?_
                obtain ⟨J11, hJ11, h⟩ := xj1_o h
                have kJ11 : ∀ (v12 : Int32), J11 v12 → xw X 3 110 198 [(0, .ref (V 0)), (1, .ref a_nb), (2, .ref a_area), (3, .ref a_border), (4, .ref a_rest), (5, .int u5), (6, .int u6), (7, .int x7), (8, .int r9)] [.int v12, .int (border (((10 : Int32) * (u6 - u6 / (5 : Int32) * (5 : Int32))) + r9).toNatClampNeg), .int (((10 : Int32) * (u6 - u6 / (5 : Int32) * (5 : Int32))) + r9), .ref a_border] ((wX0J cI cJ cZ cA V land there near worn trial fits ways joined) ++ [(a_nb, .inl (cI, 10, .inl (upd nb u6.toNatClampNeg ((nb u6.toNatClampNeg) ||| ((1 : Int32) <<< (r9 &&& 31)))))), (a_area, .inl (cI, 10, .inl area)), (a_border, .inl (cI, 50, .inl border)), (a_rest, .inl (cI, 50, .inl rest))]) := by
                  intro v12 hj
                  have h := hJ11 v12 hj
                  refine x_iadd (pc := 198) K dL_looks_198 ?_
                  have g9 := h.1
                  replace h := h.2
                  refine x_iast (ws' := ((wX0J cI cJ cZ cA V land there near worn trial fits ways joined) ++ [(a_nb, .inl (cI, 10, .inl (upd nb u6.toNatClampNeg ((nb u6.toNatClampNeg) ||| ((1 : Int32) <<< (r9 &&& 31)))))), (a_area, .inl (cI, 10, .inl area)), (a_border, .inl (cI, 50, .inl (upd border ((((10 : Int32) * (u6 - u6 / (5 : Int32) * (5 : Int32))) + r9).toNatClampNeg) ((border (((10 : Int32) * (u6 - u6 / (5 : Int32) * (5 : Int32))) + r9).toNatClampNeg) + v12)))), (a_rest, .inl (cI, 50, .inl rest))])) (pc := 199) K 20 0 rfl rfl rfl g9 dL_looks_199 ?_
                  clear g9
                  refine x_aload (pc := 200) K dL_looks_200 4 rfl ?_
                  refine x_bipush (v := (10)) (pc := 202) K dL_looks_202 (by decide) ?_
                  refine x_iload (pc := 204) K dL_looks_204 6 rfl ?_
                  refine x_iconst (v := (5)) (pc := 206) K dL_looks_206 (by decide) ?_
                  refine x_irem (pc := 207) K (by decide) dL_looks_207 ?_
                  refine x_imul (pc := 208) K dL_looks_208 ?_
                  refine x_iload (pc := 209) K dL_looks_209 8 rfl ?_
                  refine x_iadd (pc := 211) K dL_looks_211 ?_
                  refine x_dup2 (pc := 212) K dL_looks_212 rfl rfl ?_
                  have g9 := h.1
                  replace h := h.2
                  refine x_iald (pc := 213) K 21 0 rfl rfl g9 dL_looks_213 ?_
                  clear g9
                  refine x_iload (pc := 214) K dL_looks_214 6 rfl ?_
                  refine x_iconst (v := (5)) (pc := 216) K dL_looks_216 (by decide) ?_
                  refine x_icmp_ge (pc := 217) K dL_looks_217 (tgt := 224) (by decide) (fun c9 => ?_) (fun c9 => ?_)
                  · have h := h.1 c9
                    refine x_keep [true, true, true, true, true, true, true, true, false] rfl ?_
                    refine x_iconst (v := (1)) (pc := 224) K dL_looks_224 (by decide) ?_
                    refine x_iadd (pc := 225) K dL_looks_225 ?_
                    have g9 := h.1
                    replace h := h.2
                    refine x_iast (ws' := ((wX0J cI cJ cZ cA V land there near worn trial fits ways joined) ++ [(a_nb, .inl (cI, 10, .inl (upd nb u6.toNatClampNeg ((nb u6.toNatClampNeg) ||| ((1 : Int32) <<< (r9 &&& 31)))))), (a_area, .inl (cI, 10, .inl area)), (a_border, .inl (cI, 50, .inl (upd border ((((10 : Int32) * (u6 - u6 / (5 : Int32) * (5 : Int32))) + r9).toNatClampNeg) ((border (((10 : Int32) * (u6 - u6 / (5 : Int32) * (5 : Int32))) + r9).toNatClampNeg) + v12)))), (a_rest, .inl (cI, 50, .inl (upd rest ((((10 : Int32) * (u6 - u6 / (5 : Int32) * (5 : Int32))) + r9).toNatClampNeg) ((rest (((10 : Int32) * (u6 - u6 / (5 : Int32) * (5 : Int32))) + r9).toNatClampNeg) + (1 : Int32)))))])) (pc := 226) K 21 0 rfl rfl rfl g9 dL_looks_226 ?_
                    clear g9
                    refine x_iinc (v := x7 + (1 : Int32)) (lv' := [(0, .ref (V 0)), (1, .ref a_nb), (2, .ref a_area), (3, .ref a_border), (4, .ref a_rest), (5, .int u5), (6, .int u6), (7, .int (x7 + (1 : Int32)))]) (pc := 227) K dL_looks_227 (k := 7) rfl rfl (by decide) rfl ?_
                    refine x_goto (pc := 230) K dL_looks_230 (tgt := 81) (by decide) ?_
                    exact ih (x7 + (1 : Int32)) (upd nb u6.toNatClampNeg ((nb u6.toNatClampNeg) ||| ((1 : Int32) <<< (r9 &&& 31)))) (upd border ((((10 : Int32) * (u6 - u6 / (5 : Int32) * (5 : Int32))) + r9).toNatClampNeg) ((border (((10 : Int32) * (u6 - u6 / (5 : Int32) * (5 : Int32))) + r9).toNatClampNeg) + v12)) (upd rest ((((10 : Int32) * (u6 - u6 / (5 : Int32) * (5 : Int32))) + r9).toNatClampNeg) ((rest (((10 : Int32) * (u6 - u6 / (5 : Int32) * (5 : Int32))) + r9).toNatClampNeg) + (1 : Int32))) h k0
                  · have h := h.2 c9
                    refine x_keep [true, true, true, true, true, true, true, true, false] rfl ?_
                    refine x_iconst (v := (0)) (pc := 220) K dL_looks_220 (by decide) ?_
                    refine x_goto (pc := 221) K dL_looks_221 (tgt := 225) (by decide) ?_
                    refine x_iadd (pc := 225) K dL_looks_225 ?_
                    have g9 := h.1
                    replace h := h.2
                    refine x_iast (ws' := ((wX0J cI cJ cZ cA V land there near worn trial fits ways joined) ++ [(a_nb, .inl (cI, 10, .inl (upd nb u6.toNatClampNeg ((nb u6.toNatClampNeg) ||| ((1 : Int32) <<< (r9 &&& 31)))))), (a_area, .inl (cI, 10, .inl area)), (a_border, .inl (cI, 50, .inl (upd border ((((10 : Int32) * (u6 - u6 / (5 : Int32) * (5 : Int32))) + r9).toNatClampNeg) ((border (((10 : Int32) * (u6 - u6 / (5 : Int32) * (5 : Int32))) + r9).toNatClampNeg) + v12)))), (a_rest, .inl (cI, 50, .inl (upd rest ((((10 : Int32) * (u6 - u6 / (5 : Int32) * (5 : Int32))) + r9).toNatClampNeg) ((rest (((10 : Int32) * (u6 - u6 / (5 : Int32) * (5 : Int32))) + r9).toNatClampNeg) + (0 : Int32)))))])) (pc := 226) K 21 0 rfl rfl rfl g9 dL_looks_226 ?_
                    clear g9
                    refine x_iinc (v := x7 + (1 : Int32)) (lv' := [(0, .ref (V 0)), (1, .ref a_nb), (2, .ref a_area), (3, .ref a_border), (4, .ref a_rest), (5, .int u5), (6, .int u6), (7, .int (x7 + (1 : Int32)))]) (pc := 227) K dL_looks_227 (k := 7) rfl rfl (by decide) rfl ?_
                    refine x_goto (pc := 230) K dL_looks_230 (tgt := 81) (by decide) ?_
                    exact ih (x7 + (1 : Int32)) (upd nb u6.toNatClampNeg ((nb u6.toNatClampNeg) ||| ((1 : Int32) <<< (r9 &&& 31)))) (upd border ((((10 : Int32) * (u6 - u6 / (5 : Int32) * (5 : Int32))) + r9).toNatClampNeg) ((border (((10 : Int32) * (u6 - u6 / (5 : Int32) * (5 : Int32))) + r9).toNatClampNeg) + v12)) (upd rest ((((10 : Int32) * (u6 - u6 / (5 : Int32) * (5 : Int32))) + r9).toNatClampNeg) ((rest (((10 : Int32) * (u6 - u6 / (5 : Int32) * (5 : Int32))) + r9).toNatClampNeg) + (0 : Int32))) h k0
                refine x_icmp_ge (pc := 190) K dL_looks_190 (tgt := 197) (by decide) (fun c9 => ?_) (fun c9 => ?_)
                · have h := h.1 c9
                  refine x_iconst (v := (0)) (pc := 197) K dL_looks_197 (by decide) ?_
                  exact kJ11 (0 : Int32) h
                · have h := h.2 c9
                  refine x_iconst (v := (1)) (pc := 193) K dL_looks_193 (by decide) ?_
                  refine x_goto (pc := 194) K dL_looks_194 (tgt := 198) (by decide) ?_
                  exact kJ11 (1 : Int32) h
          refine x_icmp_ne (pc := 127) K dL_looks_127 (tgt := 134) (by decide) (fun c9 => ?_) (fun c9 => ?_)
          · have h := h.1 c9
            refine x_iload (pc := 134) K dL_looks_134 7 rfl ?_
            refine x_iconst (v := (3)) (pc := 136) K dL_looks_136 (by decide) ?_
            refine x_icmp_ne (pc := 137) K dL_looks_137 (tgt := 144) (by decide) (fun c9 => ?_) (fun c9 => ?_)
            · have h := h.1 c9
              refine x_iconst (v := (0)) (pc := 144) K dL_looks_144 (by decide) ?_
              exact kJ7 (0 : Int32) h
            · have h := h.2 c9
              refine x_iconst (v := (-1)) (pc := 140) K dL_looks_140 (by decide) ?_
              refine x_goto (pc := 141) K dL_looks_141 (tgt := 145) (by decide) ?_
              exact kJ7 (-1 : Int32) h
          · have h := h.2 c9
            refine x_iconst (v := (1)) (pc := 130) K dL_looks_130 (by decide) ?_
            refine x_goto (pc := 131) K dL_looks_131 (tgt := 145) (by decide) ?_
            exact kJ7 (1 : Int32) h
        refine x_if_ne (pc := 100) K dL_looks_100 (tgt := 107) (by decide) (fun c9 => ?_) (fun c9 => ?_)
        · have h := h.1 c9
          refine x_iload (pc := 107) K dL_looks_107 7 rfl ?_
          refine x_iconst (v := (1)) (pc := 109) K dL_looks_109 (by decide) ?_
          refine x_icmp_ne (pc := 110) K dL_looks_110 (tgt := 117) (by decide) (fun c9 => ?_) (fun c9 => ?_)
          · have h := h.1 c9
            refine x_iconst (v := (0)) (pc := 117) K dL_looks_117 (by decide) ?_
            exact kJ5 (0 : Int32) h
          · have h := h.2 c9
            refine x_iconst (v := (-1)) (pc := 113) K dL_looks_113 (by decide) ?_
            refine x_goto (pc := 114) K dL_looks_114 (tgt := 118) (by decide) ?_
            exact kJ5 (-1 : Int32) h
        · have h := h.2 c9
          refine x_iconst (v := (1)) (pc := 103) K dL_looks_103 (by decide) ?_
          refine x_goto (pc := 104) K dL_looks_104 (tgt := 118) (by decide) ?_
          exact kJ5 (1 : Int32) h
set_option maxHeartbeats 4000000 in
set_option maxRecDepth 100000 in
theorem w_L_looks_L40 {X : xC} {l : Launch} {D : va_G} {cI cJ cZ cA : ClassId} {V : Nat → Nat} {a_nb : Nat} {a_area : Nat} {a_border : Nat} {a_rest : Nat} (K : xk X l rm_L_looks D vwCl (xtys cI cJ cZ cA) cL_looks RL wsL_looks 9) (land : Nat → Int64) (there : Int32) (near : Nat → Int32) (worn : Nat → Int32) (trial : Nat → Int32) (fits : Nat → Int32) (ways : Nat → Int64) (joined : Nat → Nat → Int32) (hE : xEx X RX0 [(183, "there is no such country")]) (hN : xno X) (hst : l.stackTraces = false) (P0 : (Nat → Int32) → (Nat → Int32) → (Nat → Int32) → (Nat → Int32) → Prop) (P1 : (Nat → Int32) → (Nat → Int32) → (Nat → Int32) → (Nat → Int32) → Prop) : ∀ (n : Nat) (x5 : Int32) (nb : Nat → Int32) (area : Nat → Int32) (border : Nat → Int32) (rest : Nat → Int32), q_L_looks_L40 land P0 P1 n x5 nb area border rest → (∀ (z0 : Nat → Int32) (z1 : Nat → Int32) (z2 : Nat → Int32) (z3 : Nat → Int32), P0 z0 z1 z2 z3 → xw X 3 110 265 [(0, .ref (V 0)), (1, .ref a_nb), (2, .ref a_area), (3, .ref a_border), (4, .ref a_rest)] [] ((wX0J cI cJ cZ cA V land there near worn trial fits ways joined) ++ [(a_nb, .inl (cI, 10, .inl z0)), (a_area, .inl (cI, 10, .inl z1)), (a_border, .inl (cI, 50, .inl z2)), (a_rest, .inl (cI, 50, .inl z3))])) → (∀ (z0 : Nat → Int32) (z1 : Nat → Int32) (z2 : Nat → Int32) (z3 : Nat → Int32), P1 z0 z1 z2 z3 → xw X 3 110 76 [] [] ((wX0J cI cJ cZ cA V land there near worn trial fits ways joined) ++ [(a_nb, .inl (cI, 10, .inl z0)), (a_area, .inl (cI, 10, .inl z1)), (a_border, .inl (cI, 50, .inl z2)), (a_rest, .inl (cI, 50, .inl z3))])) → xw X 3 110 40 [(0, .ref (V 0)), (1, .ref a_nb), (2, .ref a_area), (3, .ref a_border), (4, .ref a_rest), (5, .int x5)] [] ((wX0J cI cJ cZ cA V land there near worn trial fits ways joined) ++ [(a_nb, .inl (cI, 10, .inl nb)), (a_area, .inl (cI, 10, .inl area)), (a_border, .inl (cI, 50, .inl border)), (a_rest, .inl (cI, 50, .inl rest))]) := by
  intro n
  induction n with
  | zero =>
    intro x5 nb area border rest h
    rw [q_L_looks_L40] at h
    exact h.elim
  | succ n ih =>
    intro x5 nb area border rest h k0 k1
    rw [q_L_looks_L40] at h
    refine x_iload (pc := 40) K dL_looks_40 5 rfl ?_
    refine x_bipush (v := (36)) (pc := 42) K dL_looks_42 (by decide) ?_
    refine x_icmp_ge (pc := 44) K dL_looks_44 (tgt := 265) (by decide) (fun c9 => ?_) (fun c9 => ?_)
    · have h := h.1 c9
      refine x_keep [true, true, true, true, true, false] rfl ?_
      exact k0 nb area border rest h
    · have h := h.2 c9
      refine x_aload_n (pc := 47) K dL_looks_47 0 rfl rfl ?_
      refine x_iload (pc := 48) K dL_looks_48 5 rfl ?_
      refine x_bipush (v := (6)) (pc := 50) K dL_looks_50 (by decide) ?_
      refine x_idiv (pc := 52) K (by decide) dL_looks_52 ?_
      refine x_iload (pc := 53) K dL_looks_53 5 rfl ?_
      refine x_bipush (v := (6)) (pc := 55) K dL_looks_55 (by decide) ?_
      refine x_irem (pc := 57) K (by decide) dL_looks_57 ?_
      refine x_callSi (pc := 58) (n := 3) K (c_L_cell l D cI cJ cZ cA V (x5 / (6 : Int32)) (x5 - x5 / (6 : Int32) * (6 : Int32)) land there near worn trial fits ways joined _ h) rfl rfl gL_looks_L_cell rfl (by decide +kernel) ⟨Nat.le_of_ble_eq_true rfl, Nat.le_of_ble_eq_true rfl⟩ rfl (av := [.ref (V 0), .int (x5 / (6 : Int32)), .int (x5 - x5 / (6 : Int32) * (6 : Int32))]) rfl (Nat.le_of_ble_eq_true rfl) [0, 1, 2, 3, 4, 5, 6, 7, 8, 9, 10, 11, 12, 13, 14, 15, 16, 17] [18, 19, 20, 21] (wr := [(a_nb, .inl (cI, 10, .inl nb)), (a_area, .inl (cI, 10, .inl area)), (a_border, .inl (cI, 50, .inl border)), (a_rest, .inl (cI, 50, .inl rest))]) rfl rfl rfl rfl (by decide) dL_looks_58 ⟨Nat.le_of_ble_eq_true rfl, Nat.le_of_ble_eq_true rfl⟩ (fun r4 u9 h => ?_)
      refine x_wsub (ws' := ((wX0J cI cJ cZ cA V land there near worn trial fits ways joined) ++ [(a_nb, .inl (cI, 10, .inl nb)), (a_area, .inl (cI, 10, .inl area)), (a_border, .inl (cI, 50, .inl border)), (a_rest, .inl (cI, 50, .inl rest))])) [4, 5, 6, 7, 8, 9, 10, 11, 12, 13, 14, 15, 16, 17, 18, 19, 20, 21, 0, 1, 2, 3] rfl rfl ?_
      refine x_istore (lv' := [(0, .ref (V 0)), (1, .ref a_nb), (2, .ref a_area), (3, .ref a_border), (4, .ref a_rest), (5, .int x5), (6, .int r4)]) (pc := 61) K dL_looks_61 (by decide) rfl ?_
      refine x_iload (pc := 63) K dL_looks_63 6 rfl ?_
      refine x_iconst (v := (-1)) (pc := 65) K dL_looks_65 (by decide) ?_
      refine x_icmp_lt (pc := 66) K dL_looks_66 (tgt := 76) (by decide) (fun c9 => ?_) (fun c9 => ?_)
      · have h := h.1 c9
        refine x_keep [false, false, false, false, false, false, false] rfl ?_
        exact k1 nb area border rest h
      · have h := h.2 c9
        refine x_iload (pc := 69) K dL_looks_69 6 rfl ?_
        refine x_bipush (v := (9)) (pc := 71) K dL_looks_71 (by decide) ?_
        refine x_icmp_le (pc := 73) K dL_looks_73 (tgt := 78) (by decide) (fun c9 => ?_) (fun c9 => ?_)
        · have h := h.1 c9
          refine x_iconst (v := (0)) (pc := 78) K dL_looks_78 (by decide) ?_
          refine x_istore (lv' := [(0, .ref (V 0)), (1, .ref a_nb), (2, .ref a_area), (3, .ref a_border), (4, .ref a_rest), (5, .int x5), (6, .int r4), (7, .int (0 : Int32))]) (pc := 79) K dL_looks_79 (by decide) rfl ?_
          obtain ⟨J16, hJ16, h⟩ := xj3_o h
          have kJ16 : ∀ (v17 : Nat → Int32) (v18 : Nat → Int32) (v19 : Nat → Int32), J16 v17 v18 v19 → xw X 3 110 233 [(0, .ref (V 0)), (1, .ref a_nb), (2, .ref a_area), (3, .ref a_border), (4, .ref a_rest), (5, .int x5), (6, .int r4)] [] ((wX0J cI cJ cZ cA V land there near worn trial fits ways joined) ++ [(a_nb, .inl (cI, 10, .inl v17)), (a_area, .inl (cI, 10, .inl area)), (a_border, .inl (cI, 50, .inl v18)), (a_rest, .inl (cI, 50, .inl v19))]) := by
            intro v17 v18 v19 hj
            have h := hJ16 v17 v18 v19 hj
            refine x_aload_n (pc := 233) K dL_looks_233 2 rfl rfl ?_
            refine x_iload (pc := 234) K dL_looks_234 6 rfl ?_
            obtain ⟨J20, hJ20, h⟩ := xj1_o h
            have kJ20 : ∀ (v21 : Int32), J20 v21 → xw X 3 110 245 [(0, .ref (V 0)), (1, .ref a_nb), (2, .ref a_area), (3, .ref a_border), (4, .ref a_rest), (5, .int x5), (6, .int r4)] [.int v21, .ref a_area] ((wX0J cI cJ cZ cA V land there near worn trial fits ways joined) ++ [(a_nb, .inl (cI, 10, .inl v17)), (a_area, .inl (cI, 10, .inl area)), (a_border, .inl (cI, 50, .inl v18)), (a_rest, .inl (cI, 50, .inl v19))]) := by
              intro v21 hj
              have h := hJ20 v21 hj
              refine x_dup2 (pc := 245) K dL_looks_245 rfl rfl ?_
              have g9 := h.1
              replace h := h.2
              refine x_iald (pc := 246) K 19 0 rfl rfl g9 dL_looks_246 ?_
              clear g9
              refine x_iload (pc := 247) K dL_looks_247 6 rfl ?_
              refine x_if_ge (pc := 249) K dL_looks_249 (tgt := 256) (by decide) (fun c9 => ?_) (fun c9 => ?_)
              · have h := h.1 c9
                refine x_keep [true, true, true, true, true, true, false] rfl ?_
                refine x_iconst (v := (1)) (pc := 256) K dL_looks_256 (by decide) ?_
                refine x_iadd (pc := 257) K dL_looks_257 ?_
                have g9 := h.1
                replace h := h.2
                refine x_iast (ws' := ((wX0J cI cJ cZ cA V land there near worn trial fits ways joined) ++ [(a_nb, .inl (cI, 10, .inl v17)), (a_area, .inl (cI, 10, .inl (upd area v21.toNatClampNeg ((area v21.toNatClampNeg) + (1 : Int32))))), (a_border, .inl (cI, 50, .inl v18)), (a_rest, .inl (cI, 50, .inl v19))])) (pc := 258) K 19 0 rfl rfl rfl g9 dL_looks_258 ?_
                clear g9
                refine x_iinc (v := x5 + (1 : Int32)) (lv' := [(0, .ref (V 0)), (1, .ref a_nb), (2, .ref a_area), (3, .ref a_border), (4, .ref a_rest), (5, .int (x5 + (1 : Int32)))]) (pc := 259) K dL_looks_259 (k := 5) rfl rfl (by decide) rfl ?_
                refine x_goto (pc := 262) K dL_looks_262 (tgt := 40) (by decide) ?_
                exact ih (x5 + (1 : Int32)) v17 (upd area v21.toNatClampNeg ((area v21.toNatClampNeg) + (1 : Int32))) v18 v19 h k0 k1
              · have h := h.2 c9
                refine x_keep [true, true, true, true, true, true, false] rfl ?_
                refine x_iconst (v := (0)) (pc := 252) K dL_looks_252 (by decide) ?_
                refine x_goto (pc := 253) K dL_looks_253 (tgt := 257) (by decide) ?_
                refine x_iadd (pc := 257) K dL_looks_257 ?_
                have g9 := h.1
                replace h := h.2
                refine x_iast (ws' := ((wX0J cI cJ cZ cA V land there near worn trial fits ways joined) ++ [(a_nb, .inl (cI, 10, .inl v17)), (a_area, .inl (cI, 10, .inl (upd area v21.toNatClampNeg ((area v21.toNatClampNeg) + (0 : Int32))))), (a_border, .inl (cI, 50, .inl v18)), (a_rest, .inl (cI, 50, .inl v19))])) (pc := 258) K 19 0 rfl rfl rfl g9 dL_looks_258 ?_
                clear g9
                refine x_iinc (v := x5 + (1 : Int32)) (lv' := [(0, .ref (V 0)), (1, .ref a_nb), (2, .ref a_area), (3, .ref a_border), (4, .ref a_rest), (5, .int (x5 + (1 : Int32)))]) (pc := 259) K dL_looks_259 (k := 5) rfl rfl (by decide) rfl ?_
                refine x_goto (pc := 262) K dL_looks_262 (tgt := 40) (by decide) ?_
                exact ih (x5 + (1 : Int32)) v17 (upd area v21.toNatClampNeg ((area v21.toNatClampNeg) + (0 : Int32))) v18 v19 h k0 k1
            refine x_if_ge (pc := 236) K dL_looks_236 (tgt := 243) (by decide) (fun c9 => ?_) (fun c9 => ?_)
            · have h := h.1 c9
              refine x_iload (pc := 243) K dL_looks_243 6 rfl ?_
              exact kJ20 r4 h
            · have h := h.2 c9
              refine x_iconst (v := (0)) (pc := 239) K dL_looks_239 (by decide) ?_
              refine x_goto (pc := 240) K dL_looks_240 (tgt := 245) (by decide) ?_
              exact kJ20 (0 : Int32) h
          obtain ⟨n24, h⟩ := h
          refine w_L_looks_L81 K x5 r4 land there near worn trial fits ways joined area hE hN hst _ n24 (0 : Int32) nb border rest h (fun v25 v26 v27 h => ?_)
          exact kJ16 v25 v26 v27 h
        · have h := h.2 c9
          refine x_keep [false, false, false, false, false, false, false] rfl ?_
          exact k1 nb area border rest h
set_option maxHeartbeats 4000000 in
set_option maxRecDepth 100000 in
theorem w_L_looks_L441 {X : xC} {l : Launch} {D : va_G} {cI cJ cZ cA : ClassId} {V : Nat → Nat} {a_nb : Nat} {a_area : Nat} {a_border : Nat} {a_rest : Nat} (K : xk X l rm_L_looks D vwCl (xtys cI cJ cZ cA) cL_looks RL wsL_looks 9) (u5 : Int32) (u6 : Int32) (land : Nat → Int64) (there : Int32) (near : Nat → Int32) (worn : Nat → Int32) (trial : Nat → Int32) (fits : Nat → Int32) (ways : Nat → Int64) (joined : Nat → Nat → Int32) (nb : Nat → Int32) (area : Nat → Int32) (border : Nat → Int32) (rest : Nat → Int32) (hE : xEx X RX0 [(183, "there is no such country")]) (hN : xno X) (hst : l.stackTraces = false) (P0 : Prop) (P1 : Prop) : ∀ (n : Nat) (x7 : Int32), q_L_looks_L441 u6 land border rest P0 P1 n x7 → (P0 → xw X 3 110 499 [(0, .ref (V 0)), (1, .ref a_nb), (2, .ref a_area), (3, .ref a_border), (4, .ref a_rest), (5, .int u5), (6, .int u6)] [] ((wX0J cI cJ cZ cA V land there near worn trial fits ways joined) ++ [(a_nb, .inl (cI, 10, .inl nb)), (a_area, .inl (cI, 10, .inl area)), (a_border, .inl (cI, 50, .inl border)), (a_rest, .inl (cI, 50, .inl rest))])) → (P1 → xw X 3 110 491 [] [] ((wX0J cI cJ cZ cA V land there near worn trial fits ways joined) ++ [(a_nb, .inl (cI, 10, .inl nb)), (a_area, .inl (cI, 10, .inl area)), (a_border, .inl (cI, 50, .inl border)), (a_rest, .inl (cI, 50, .inl rest))])) → xw X 3 110 441 [(0, .ref (V 0)), (1, .ref a_nb), (2, .ref a_area), (3, .ref a_border), (4, .ref a_rest), (5, .int u5), (6, .int u6), (7, .int x7)] [] ((wX0J cI cJ cZ cA V land there near worn trial fits ways joined) ++ [(a_nb, .inl (cI, 10, .inl nb)), (a_area, .inl (cI, 10, .inl area)), (a_border, .inl (cI, 50, .inl border)), (a_rest, .inl (cI, 50, .inl rest))]) := by
  intro n
  induction n with
  | zero =>
    intro x7 h
    rw [q_L_looks_L441] at h
    exact h.elim
  | succ n ih =>
    intro x7 h k0 k1
    rw [q_L_looks_L441] at h
    refine x_iload (pc := 441) K dL_looks_441 7 rfl ?_
    refine x_bipush (v := (10)) (pc := 443) K dL_looks_443 (by decide) ?_
    refine x_icmp_ge (pc := 445) K dL_looks_445 (tgt := 499) (by decide) (fun c9 => ?_) (fun c9 => ?_)
    · have h := h.1 c9
      refine x_keep [true, true, true, true, true, true, true, false] rfl ?_
      exact k0  h
    · have h := h.2 c9
      refine x_aload_n (pc := 448) K dL_looks_448 0 rfl rfl ?_
      refine x_iload (pc := 449) K dL_looks_449 6 rfl ?_
      refine x_iload (pc := 451) K dL_looks_451 7 rfl ?_
      refine x_wcallSi (pc := 453) (n := 3) K (c0_L_border l D cI cJ cZ cA V u6 x7 land there near worn trial fits ways joined _ h) rfl rfl gL_looks_L_border rfl (by decide +kernel) ⟨Nat.le_of_ble_eq_true rfl, Nat.le_of_ble_eq_true rfl⟩ rfl (av := [.ref (V 0), .int u6, .int x7]) rfl (Nat.le_of_ble_eq_true rfl) [0, 1, 2, 3, 4, 5, 6, 7, 8, 9, 10, 11, 12, 13, 14, 15, 16, 17] [18, 19, 20, 21] (wr := [(a_nb, .inl (cI, 10, .inl nb)), (a_area, .inl (cI, 10, .inl area)), (a_border, .inl (cI, 50, .inl border)), (a_rest, .inl (cI, 50, .inl rest))]) rfl rfl rfl rfl (by decide) dL_looks_453 ⟨Nat.le_of_ble_eq_true rfl, Nat.le_of_ble_eq_true rfl⟩ (fun r53 u9 h => ?_)
      refine x_wsub (ws' := ((wX0J cI cJ cZ cA V land there near worn trial fits ways joined) ++ [(a_nb, .inl (cI, 10, .inl nb)), (a_area, .inl (cI, 10, .inl area)), (a_border, .inl (cI, 50, .inl border)), (a_rest, .inl (cI, 50, .inl rest))])) [4, 5, 6, 7, 8, 9, 10, 11, 12, 13, 14, 15, 16, 17, 18, 19, 20, 21, 0, 1, 2, 3] rfl rfl ?_
      refine x_iload (pc := 456) K dL_looks_456 6 rfl ?_
      refine x_iconst (v := (5)) (pc := 458) K dL_looks_458 (by decide) ?_
      obtain ⟨J54, hJ54, h⟩ := xj1_o h
      have kJ54 : ∀ (v55 : Int32), J54 v55 → xw X 3 110 488 [(0, .ref (V 0)), (1, .ref a_nb), (2, .ref a_area), (3, .ref a_border), (4, .ref a_rest), (5, .int u5), (6, .int u6), (7, .int x7)] [.int v55, .int r53] ((wX0J cI cJ cZ cA V land there near worn trial fits ways joined) ++ [(a_nb, .inl (cI, 10, .inl nb)), (a_area, .inl (cI, 10, .inl area)), (a_border, .inl (cI, 50, .inl border)), (a_rest, .inl (cI, 50, .inl rest))]) := by
        intro v55 hj
        have h := hJ54 v55 hj
        refine x_icmp_eq (pc := 488) K dL_looks_488 (tgt := 493) (by decide) (fun c9 => ?_) (fun c9 => ?_)
        · have h := h.1 c9
          refine x_iinc (v := x7 + (1 : Int32)) (lv' := [(0, .ref (V 0)), (1, .ref a_nb), (2, .ref a_area), (3, .ref a_border), (4, .ref a_rest), (5, .int u5), (6, .int u6), (7, .int (x7 + (1 : Int32)))]) (pc := 493) K dL_looks_493 (k := 7) rfl rfl (by decide) rfl ?_
          refine x_goto (pc := 496) K dL_looks_496 (tgt := 441) (by decide) ?_
          exact ih (x7 + (1 : Int32)) h k0 k1
        · have h := h.2 c9
          refine x_keep [false, false, false, false, false, false, false, false] rfl ?_
          exact k1  h
      refine x_icmp_ge (pc := 459) K dL_looks_459 (tgt := 475) (by decide) (fun c9 => ?_) (fun c9 => ?_)
      · have h := h.1 c9
        refine x_aload (pc := 475) K dL_looks_475 4 rfl ?_
        refine x_bipush (v := (10)) (pc := 477) K dL_looks_477 (by decide) ?_
        refine x_iload (pc := 479) K dL_looks_479 6 rfl ?_
        refine x_iconst (v := (5)) (pc := 481) K dL_looks_481 (by decide) ?_
        refine x_isub (pc := 482) K dL_looks_482 ?_
        refine x_imul (pc := 483) K dL_looks_483 ?_
        refine x_iload (pc := 484) K dL_looks_484 7 rfl ?_
        refine x_iadd (pc := 486) K dL_looks_486 ?_
        have g9 := h.1
        replace h := h.2
        refine x_iald (pc := 487) K 21 0 rfl rfl g9 dL_looks_487 ?_
        clear g9
        exact kJ54 (rest (((10 : Int32) * (u6 - (5 : Int32))) + x7).toNatClampNeg) h
      · have h := h.2 c9
        refine x_aload_n (pc := 462) K dL_looks_462 3 rfl rfl ?_
        refine x_bipush (v := (10)) (pc := 463) K dL_looks_463 (by decide) ?_
        refine x_iload (pc := 465) K dL_looks_465 6 rfl ?_
        refine x_imul (pc := 467) K dL_looks_467 ?_
        refine x_iload (pc := 468) K dL_looks_468 7 rfl ?_
        refine x_iadd (pc := 470) K dL_looks_470 ?_
        have g9 := h.1
        replace h := h.2
        refine x_iald (pc := 471) K 20 0 rfl rfl g9 dL_looks_471 ?_
        clear g9
        refine x_goto (pc := 472) K dL_looks_472 (tgt := 488) (by decide) ?_
        exact kJ54 (border (((10 : Int32) * u6) + x7).toNatClampNeg) h
set_option maxHeartbeats 4000000 in
set_option maxRecDepth 100000 in
theorem w_L_looks_L271 {X : xC} {l : Launch} {D : va_G} {cI cJ cZ cA : ClassId} {V : Nat → Nat} {a_nb : Nat} {a_area : Nat} {a_border : Nat} {a_rest : Nat} (K : xk X l rm_L_looks D vwCl (xtys cI cJ cZ cA) cL_looks RL wsL_looks 9) (land : Nat → Int64) (there : Int32) (near : Nat → Int32) (worn : Nat → Int32) (trial : Nat → Int32) (fits : Nat → Int32) (ways : Nat → Int64) (joined : Nat → Nat → Int32) (nb : Nat → Int32) (area : Nat → Int32) (border : Nat → Int32) (rest : Nat → Int32) (hE : xEx X RX0 [(183, "there is no such country")]) (hN : xno X) (hst : l.stackTraces = false) (P0 : Int32 → Prop) (P1 : Prop) (P2 : Prop) : ∀ (n : Nat) (x5 : Int32) (x6 : Int32), q_L_looks_L271 land near nb area border rest P0 P1 P2 n x5 x6 → (∀ (z0 : Int32), P0 z0 → xw X 3 110 505 [(0, .ref (V 0)), (5, .int z0)] [] ((wX0J cI cJ cZ cA V land there near worn trial fits ways joined) ++ [(a_nb, .inl (cI, 10, .inl nb)), (a_area, .inl (cI, 10, .inl area)), (a_border, .inl (cI, 50, .inl border)), (a_rest, .inl (cI, 50, .inl rest))])) → (P1 → xw X 3 110 436 [] [] ((wX0J cI cJ cZ cA V land there near worn trial fits ways joined) ++ [(a_nb, .inl (cI, 10, .inl nb)), (a_area, .inl (cI, 10, .inl area)), (a_border, .inl (cI, 50, .inl border)), (a_rest, .inl (cI, 50, .inl rest))])) → (P2 → xw X 3 110 491 [] [] ((wX0J cI cJ cZ cA V land there near worn trial fits ways joined) ++ [(a_nb, .inl (cI, 10, .inl nb)), (a_area, .inl (cI, 10, .inl area)), (a_border, .inl (cI, 50, .inl border)), (a_rest, .inl (cI, 50, .inl rest))])) → xw X 3 110 271 [(0, .ref (V 0)), (1, .ref a_nb), (2, .ref a_area), (3, .ref a_border), (4, .ref a_rest), (5, .int x5), (6, .int x6)] [] ((wX0J cI cJ cZ cA V land there near worn trial fits ways joined) ++ [(a_nb, .inl (cI, 10, .inl nb)), (a_area, .inl (cI, 10, .inl area)), (a_border, .inl (cI, 50, .inl border)), (a_rest, .inl (cI, 50, .inl rest))]) := by
  intro n
  induction n with
  | zero =>
    intro x5 x6 h
    rw [q_L_looks_L271] at h
    exact h.elim
  | succ n ih =>
    intro x5 x6 h k0 k1 k2
    rw [q_L_looks_L271] at h
    refine x_iload (pc := 271) K dL_looks_271 6 rfl ?_
    refine x_bipush (v := (10)) (pc := 273) K dL_looks_273 (by decide) ?_
    refine x_icmp_ge (pc := 275) K dL_looks_275 (tgt := 505) (by decide) (fun c9 => ?_) (fun c9 => ?_)
    · have h := h.1 c9
      refine x_keep [true, false, false, false, false, true, false] rfl ?_
      exact k0 x5 h
    · have h := h.2 c9
      refine x_iload (pc := 278) K dL_looks_278 5 rfl ?_
      refine x_aload_n (pc := 280) K dL_looks_280 2 rfl rfl ?_
      refine x_iload (pc := 281) K dL_looks_281 6 rfl ?_
      have g9 := h.1
      replace h := h.2
      refine x_iald (pc := 283) K 19 0 rfl rfl g9 dL_looks_283 ?_
      clear g9
      obtain ⟨J33, hJ33, h⟩ := xj1_o h
      have kJ33 : ∀ (v34 : Int32), J33 v34 → xw X 3 110 292 [(0, .ref (V 0)), (1, .ref a_nb), (2, .ref a_area), (3, .ref a_border), (4, .ref a_rest), (6, .int x6)] [.int v34, .int x5] ((wX0J cI cJ cZ cA V land there near worn trial fits ways joined) ++ [(a_nb, .inl (cI, 10, .inl nb)), (a_area, .inl (cI, 10, .inl area)), (a_border, .inl (cI, 50, .inl border)), (a_rest, .inl (cI, 50, .inl rest))]) := by
        intro v34 hj
        have h := hJ33 v34 hj
        refine x_iadd (pc := 292) K dL_looks_292 ?_
        obtain ⟨y35, ey35, h⟩ := xl_o h
        refine x_topi ey35 ?_
        clear ey35
        refine x_istore (lv' := [(0, .ref (V 0)), (1, .ref a_nb), (2, .ref a_area), (3, .ref a_border), (4, .ref a_rest), (5, .int y35), (6, .int x6)]) (pc := 293) K dL_looks_293 (by decide) rfl ?_
        refine x_aload_n (pc := 295) K dL_looks_295 0 rfl rfl ?_
        refine x_iload (pc := 296) K dL_looks_296 6 rfl ?_
        refine x_wcallSi (pc := 298) (n := 2) K (c0_L_area l D cI cJ cZ cA V x6 land there near worn trial fits ways joined _ h) rfl rfl gL_looks_L_area rfl (by decide +kernel) ⟨Nat.le_of_ble_eq_true rfl, Nat.le_of_ble_eq_true rfl⟩ rfl (av := [.ref (V 0), .int x6]) rfl (Nat.le_of_ble_eq_true rfl) [0, 1, 2, 3, 4, 5, 6, 7, 8, 9, 10, 11, 12, 13, 14, 15, 16, 17] [18, 19, 20, 21] (wr := [(a_nb, .inl (cI, 10, .inl nb)), (a_area, .inl (cI, 10, .inl area)), (a_border, .inl (cI, 50, .inl border)), (a_rest, .inl (cI, 50, .inl rest))]) rfl rfl rfl rfl (by decide) dL_looks_298 ⟨Nat.le_of_ble_eq_true rfl, Nat.le_of_ble_eq_true rfl⟩ (fun r36 u9 h => ?_)
        refine x_wsub (ws' := ((wX0J cI cJ cZ cA V land there near worn trial fits ways joined) ++ [(a_nb, .inl (cI, 10, .inl nb)), (a_area, .inl (cI, 10, .inl area)), (a_border, .inl (cI, 50, .inl border)), (a_rest, .inl (cI, 50, .inl rest))])) [4, 5, 6, 7, 8, 9, 10, 11, 12, 13, 14, 15, 16, 17, 18, 19, 20, 21, 0, 1, 2, 3] rfl rfl ?_
        refine x_aload_n (pc := 301) K dL_looks_301 2 rfl rfl ?_
        refine x_iload (pc := 302) K dL_looks_302 6 rfl ?_
        have g9 := h.1
        replace h := h.2
        refine x_iald (pc := 304) K 19 0 rfl rfl g9 dL_looks_304 ?_
        clear g9
        refine x_icmp_ne (pc := 305) K dL_looks_305 (tgt := 436) (by decide) (fun c9 => ?_) (fun c9 => ?_)
        · have h := h.1 c9
          refine x_keep [false, false, false, false, false, false, false] rfl ?_
          exact k1  h
        · have h := h.2 c9
          refine x_aload_n (pc := 308) K dL_looks_308 0 rfl rfl ?_
          refine x_iload (pc := 309) K dL_looks_309 6 rfl ?_
          refine x_wcallSi (pc := 311) (n := 2) K (c0_L_neighbours l D cI cJ cZ cA V x6 land there near worn trial fits ways joined _ h) rfl rfl gL_looks_L_neighbours rfl (by decide +kernel) ⟨Nat.le_of_ble_eq_true rfl, Nat.le_of_ble_eq_true rfl⟩ rfl (av := [.ref (V 0), .int x6]) rfl (Nat.le_of_ble_eq_true rfl) [0, 1, 2, 3, 4, 5, 6, 7, 8, 9, 10, 11, 12, 13, 14, 15, 16, 17] [18, 19, 20, 21] (wr := [(a_nb, .inl (cI, 10, .inl nb)), (a_area, .inl (cI, 10, .inl area)), (a_border, .inl (cI, 50, .inl border)), (a_rest, .inl (cI, 50, .inl rest))]) rfl rfl rfl rfl (by decide) dL_looks_311 ⟨Nat.le_of_ble_eq_true rfl, Nat.le_of_ble_eq_true rfl⟩ (fun r37 u9 h => ?_)
          refine x_wsub (ws' := ((wX0J cI cJ cZ cA V land there near worn trial fits ways joined) ++ [(a_nb, .inl (cI, 10, .inl nb)), (a_area, .inl (cI, 10, .inl area)), (a_border, .inl (cI, 50, .inl border)), (a_rest, .inl (cI, 50, .inl rest))])) [4, 5, 6, 7, 8, 9, 10, 11, 12, 13, 14, 15, 16, 17, 18, 19, 20, 21, 0, 1, 2, 3] rfl rfl ?_
          refine x_aload_n (pc := 314) K dL_looks_314 1 rfl rfl ?_
          refine x_iload (pc := 315) K dL_looks_315 6 rfl ?_
          have g9 := h.1
          replace h := h.2
          refine x_iald (pc := 317) K 18 0 rfl rfl g9 dL_looks_317 ?_
          clear g9
          refine x_pcallSi (pc := 318) (n := 1) K (c_L_many l D cI cJ cZ cA (nb x6.toNatClampNeg) _ h) rfl rfl gL_looks_L_many rfl (by decide +kernel) ⟨Nat.le_of_ble_eq_true rfl, Nat.le_of_ble_eq_true rfl⟩ rfl (av := [.int (nb x6.toNatClampNeg)]) rfl (Nat.le_of_ble_eq_true rfl) dL_looks_318 ⟨Nat.le_of_ble_eq_true rfl, Nat.le_of_ble_eq_true rfl⟩ (fun r38 u9 h => ?_)
          refine x_icmp_ne (pc := 321) K dL_looks_321 (tgt := 436) (by decide) (fun c9 => ?_) (fun c9 => ?_)
          · have h := h.1 c9
            refine x_keep [false, false, false, false, false, false, false] rfl ?_
            exact k1  h
          · have h := h.2 c9
            refine x_aload_n (pc := 324) K dL_looks_324 0 rfl rfl ?_
            refine x_iload (pc := 325) K dL_looks_325 6 rfl ?_
            refine x_wcallSi (pc := 327) (n := 2) K (c0_L_pieces l D cI cJ cZ cA V x6 land there near worn trial fits ways joined _ h) rfl rfl gL_looks_L_pieces rfl (by decide +kernel) ⟨Nat.le_of_ble_eq_true rfl, Nat.le_of_ble_eq_true rfl⟩ rfl (av := [.ref (V 0), .int x6]) rfl (Nat.le_of_ble_eq_true rfl) [0, 1, 2, 3, 4, 5, 6, 7, 8, 9, 10, 11, 12, 13, 14, 15, 16, 17] [18, 19, 20, 21] (wr := [(a_nb, .inl (cI, 10, .inl nb)), (a_area, .inl (cI, 10, .inl area)), (a_border, .inl (cI, 50, .inl border)), (a_rest, .inl (cI, 50, .inl rest))]) rfl rfl rfl rfl (by decide) dL_looks_327 ⟨Nat.le_of_ble_eq_true rfl, Nat.le_of_ble_eq_true rfl⟩ (fun r39 u9 h => ?_)
            refine x_wsub (ws' := ((wX0J cI cJ cZ cA V land there near worn trial fits ways joined) ++ [(a_nb, .inl (cI, 10, .inl nb)), (a_area, .inl (cI, 10, .inl area)), (a_border, .inl (cI, 50, .inl border)), (a_rest, .inl (cI, 50, .inl rest))])) [4, 5, 6, 7, 8, 9, 10, 11, 12, 13, 14, 15, 16, 17, 18, 19, 20, 21, 0, 1, 2, 3] rfl rfl ?_
            refine x_aload_n (pc := 330) K dL_looks_330 2 rfl rfl ?_
            refine x_iload (pc := 331) K dL_looks_331 6 rfl ?_
            have g9 := h.1
            replace h := h.2
            refine x_iald (pc := 333) K 19 0 rfl rfl g9 dL_looks_333 ?_
            clear g9
            obtain ⟨J40, hJ40, h⟩ := xj1_o h
            have kJ40 : ∀ (v41 : Int32), J40 v41 → xw X 3 110 342 [(0, .ref (V 0)), (1, .ref a_nb), (2, .ref a_area), (3, .ref a_border), (4, .ref a_rest), (5, .int y35), (6, .int x6)] [.int v41, .int r39] ((wX0J cI cJ cZ cA V land there near worn trial fits ways joined) ++ [(a_nb, .inl (cI, 10, .inl nb)), (a_area, .inl (cI, 10, .inl area)), (a_border, .inl (cI, 50, .inl border)), (a_rest, .inl (cI, 50, .inl rest))]) := by
              intro v41 hj
              have h := hJ40 v41 hj
              refine x_icmp_lt (pc := 342) K dL_looks_342 (tgt := 436) (by decide) (fun c9 => ?_) (fun c9 => ?_)
              · have h := h.1 c9
                refine x_keep [false, false, false, false, false, false, false] rfl ?_
                exact k1  h
              · have h := h.2 c9
                refine x_aload_n (pc := 345) K dL_looks_345 0 rfl rfl ?_
                refine x_iload (pc := 346) K dL_looks_346 6 rfl ?_
                refine x_wcallSi (pc := 348) (n := 2) K (c0_L_pieces l D cI cJ cZ cA V x6 land there near worn trial fits ways joined _ h) rfl rfl gL_looks_L_pieces rfl (by decide +kernel) ⟨Nat.le_of_ble_eq_true rfl, Nat.le_of_ble_eq_true rfl⟩ rfl (av := [.ref (V 0), .int x6]) rfl (Nat.le_of_ble_eq_true rfl) [0, 1, 2, 3, 4, 5, 6, 7, 8, 9, 10, 11, 12, 13, 14, 15, 16, 17] [18, 19, 20, 21] (wr := [(a_nb, .inl (cI, 10, .inl nb)), (a_area, .inl (cI, 10, .inl area)), (a_border, .inl (cI, 50, .inl border)), (a_rest, .inl (cI, 50, .inl rest))]) rfl rfl rfl rfl (by decide) dL_looks_348 ⟨Nat.le_of_ble_eq_true rfl, Nat.le_of_ble_eq_true rfl⟩ (fun r42 u9 h => ?_)
                refine x_wsub (ws' := ((wX0J cI cJ cZ cA V land there near worn trial fits ways joined) ++ [(a_nb, .inl (cI, 10, .inl nb)), (a_area, .inl (cI, 10, .inl area)), (a_border, .inl (cI, 50, .inl border)), (a_rest, .inl (cI, 50, .inl rest))])) [4, 5, 6, 7, 8, 9, 10, 11, 12, 13, 14, 15, 16, 17, 18, 19, 20, 21, 0, 1, 2, 3] rfl rfl ?_
                refine x_aload_n (pc := 351) K dL_looks_351 2 rfl rfl ?_
                refine x_iload (pc := 352) K dL_looks_352 6 rfl ?_
                have g9 := h.1
                replace h := h.2
                refine x_iald (pc := 354) K 19 0 rfl rfl g9 dL_looks_354 ?_
                clear g9
                refine x_icmp_gt (pc := 355) K dL_looks_355 (tgt := 436) (by decide) (fun c9 => ?_) (fun c9 => ?_)
                · have h := h.1 c9
                  refine x_keep [false, false, false, false, false, false, false] rfl ?_
                  exact k1  h
                · have h := h.2 c9
                  refine x_aload_n (pc := 358) K dL_looks_358 0 rfl rfl ?_
                  refine x_iload (pc := 359) K dL_looks_359 6 rfl ?_
                  refine x_wcallSi (pc := 361) (n := 2) K (c0_L_largestPiece l D cI cJ cZ cA V x6 land there near worn trial fits ways joined _ h) rfl rfl gL_looks_L_largestPiece rfl (by decide +kernel) ⟨Nat.le_of_ble_eq_true rfl, Nat.le_of_ble_eq_true rfl⟩ rfl (av := [.ref (V 0), .int x6]) rfl (Nat.le_of_ble_eq_true rfl) [0, 1, 2, 3, 4, 5, 6, 7, 8, 9, 10, 11, 12, 13, 14, 15, 16, 17] [18, 19, 20, 21] (wr := [(a_nb, .inl (cI, 10, .inl nb)), (a_area, .inl (cI, 10, .inl area)), (a_border, .inl (cI, 50, .inl border)), (a_rest, .inl (cI, 50, .inl rest))]) rfl rfl rfl rfl (by decide) dL_looks_361 ⟨Nat.le_of_ble_eq_true rfl, Nat.le_of_ble_eq_true rfl⟩ (fun r43 u9 h => ?_)
                  refine x_wsub (ws' := ((wX0J cI cJ cZ cA V land there near worn trial fits ways joined) ++ [(a_nb, .inl (cI, 10, .inl nb)), (a_area, .inl (cI, 10, .inl area)), (a_border, .inl (cI, 50, .inl border)), (a_rest, .inl (cI, 50, .inl rest))])) [4, 5, 6, 7, 8, 9, 10, 11, 12, 13, 14, 15, 16, 17, 18, 19, 20, 21, 0, 1, 2, 3] rfl rfl ?_
                  refine x_aload_n (pc := 364) K dL_looks_364 0 rfl rfl ?_
                  refine x_iload (pc := 365) K dL_looks_365 6 rfl ?_
                  refine x_wcallSi (pc := 367) (n := 2) K (c0_L_pieces l D cI cJ cZ cA V x6 land there near worn trial fits ways joined _ h) rfl rfl gL_looks_L_pieces rfl (by decide +kernel) ⟨Nat.le_of_ble_eq_true rfl, Nat.le_of_ble_eq_true rfl⟩ rfl (av := [.ref (V 0), .int x6]) rfl (Nat.le_of_ble_eq_true rfl) [0, 1, 2, 3, 4, 5, 6, 7, 8, 9, 10, 11, 12, 13, 14, 15, 16, 17] [18, 19, 20, 21] (wr := [(a_nb, .inl (cI, 10, .inl nb)), (a_area, .inl (cI, 10, .inl area)), (a_border, .inl (cI, 50, .inl border)), (a_rest, .inl (cI, 50, .inl rest))]) rfl rfl rfl rfl (by decide) dL_looks_367 ⟨Nat.le_of_ble_eq_true rfl, Nat.le_of_ble_eq_true rfl⟩ (fun r44 u9 h => ?_)
                  refine x_wsub (ws' := ((wX0J cI cJ cZ cA V land there near worn trial fits ways joined) ++ [(a_nb, .inl (cI, 10, .inl nb)), (a_area, .inl (cI, 10, .inl area)), (a_border, .inl (cI, 50, .inl border)), (a_rest, .inl (cI, 50, .inl rest))])) [4, 5, 6, 7, 8, 9, 10, 11, 12, 13, 14, 15, 16, 17, 18, 19, 20, 21, 0, 1, 2, 3] rfl rfl ?_
                  refine x_imul (pc := 370) K dL_looks_370 ?_
                  refine x_aload_n (pc := 371) K dL_looks_371 2 rfl rfl ?_
                  refine x_iload (pc := 372) K dL_looks_372 6 rfl ?_
                  have g9 := h.1
                  replace h := h.2
                  refine x_iald (pc := 374) K 19 0 rfl rfl g9 dL_looks_374 ?_
                  clear g9
                  refine x_icmp_lt (pc := 375) K dL_looks_375 (tgt := 436) (by decide) (fun c9 => ?_) (fun c9 => ?_)
                  · have h := h.1 c9
                    refine x_keep [false, false, false, false, false, false, false] rfl ?_
                    exact k1  h
                  · have h := h.2 c9
                    refine x_aload_n (pc := 378) K dL_looks_378 0 rfl rfl ?_
                    refine x_iload (pc := 379) K dL_looks_379 6 rfl ?_
                    refine x_wcallSi (pc := 381) (n := 2) K (c0_L_largestPiece l D cI cJ cZ cA V x6 land there near worn trial fits ways joined _ h) rfl rfl gL_looks_L_largestPiece rfl (by decide +kernel) ⟨Nat.le_of_ble_eq_true rfl, Nat.le_of_ble_eq_true rfl⟩ rfl (av := [.ref (V 0), .int x6]) rfl (Nat.le_of_ble_eq_true rfl) [0, 1, 2, 3, 4, 5, 6, 7, 8, 9, 10, 11, 12, 13, 14, 15, 16, 17] [18, 19, 20, 21] (wr := [(a_nb, .inl (cI, 10, .inl nb)), (a_area, .inl (cI, 10, .inl area)), (a_border, .inl (cI, 50, .inl border)), (a_rest, .inl (cI, 50, .inl rest))]) rfl rfl rfl rfl (by decide) dL_looks_381 ⟨Nat.le_of_ble_eq_true rfl, Nat.le_of_ble_eq_true rfl⟩ (fun r45 u9 h => ?_)
                    refine x_wsub (ws' := ((wX0J cI cJ cZ cA V land there near worn trial fits ways joined) ++ [(a_nb, .inl (cI, 10, .inl nb)), (a_area, .inl (cI, 10, .inl area)), (a_border, .inl (cI, 50, .inl border)), (a_rest, .inl (cI, 50, .inl rest))])) [4, 5, 6, 7, 8, 9, 10, 11, 12, 13, 14, 15, 16, 17, 18, 19, 20, 21, 0, 1, 2, 3] rfl rfl ?_
                    refine x_aload_n (pc := 384) K dL_looks_384 0 rfl rfl ?_
                    refine x_iload (pc := 385) K dL_looks_385 6 rfl ?_
                    refine x_wcallSi (pc := 387) (n := 2) K (c0_L_pieces l D cI cJ cZ cA V x6 land there near worn trial fits ways joined _ h) rfl rfl gL_looks_L_pieces rfl (by decide +kernel) ⟨Nat.le_of_ble_eq_true rfl, Nat.le_of_ble_eq_true rfl⟩ rfl (av := [.ref (V 0), .int x6]) rfl (Nat.le_of_ble_eq_true rfl) [0, 1, 2, 3, 4, 5, 6, 7, 8, 9, 10, 11, 12, 13, 14, 15, 16, 17] [18, 19, 20, 21] (wr := [(a_nb, .inl (cI, 10, .inl nb)), (a_area, .inl (cI, 10, .inl area)), (a_border, .inl (cI, 50, .inl border)), (a_rest, .inl (cI, 50, .inl rest))]) rfl rfl rfl rfl (by decide) dL_looks_387 ⟨Nat.le_of_ble_eq_true rfl, Nat.le_of_ble_eq_true rfl⟩ (fun r46 u9 h => ?_)
                    refine x_wsub (ws' := ((wX0J cI cJ cZ cA V land there near worn trial fits ways joined) ++ [(a_nb, .inl (cI, 10, .inl nb)), (a_area, .inl (cI, 10, .inl area)), (a_border, .inl (cI, 50, .inl border)), (a_rest, .inl (cI, 50, .inl rest))])) [4, 5, 6, 7, 8, 9, 10, 11, 12, 13, 14, 15, 16, 17, 18, 19, 20, 21, 0, 1, 2, 3] rfl rfl ?_
                    refine x_iadd (pc := 390) K dL_looks_390 ?_
                    refine x_aload_n (pc := 391) K dL_looks_391 2 rfl rfl ?_
                    refine x_iload (pc := 392) K dL_looks_392 6 rfl ?_
                    have g9 := h.1
                    replace h := h.2
                    refine x_iald (pc := 394) K 19 0 rfl rfl g9 dL_looks_394 ?_
                    clear g9
                    refine x_iconst (v := (1)) (pc := 395) K dL_looks_395 (by decide) ?_
                    refine x_iadd (pc := 396) K dL_looks_396 ?_
                    obtain ⟨J47, hJ47, h⟩ := xj0_o h
                    have kJ47 : J47 → xw X 3 110 407 [(0, .ref (V 0)), (1, .ref a_nb), (2, .ref a_area), (3, .ref a_border), (4, .ref a_rest), (5, .int y35), (6, .int x6)] [] ((wX0J cI cJ cZ cA V land there near worn trial fits ways joined) ++ [(a_nb, .inl (cI, 10, .inl nb)), (a_area, .inl (cI, 10, .inl area)), (a_border, .inl (cI, 50, .inl border)), (a_rest, .inl (cI, 50, .inl rest))]) := by
                      intro  hj
                      have h := hJ47  hj
                      refine x_aload_n (pc := 407) K dL_looks_407 2 rfl rfl ?_
                      refine x_iload (pc := 408) K dL_looks_408 6 rfl ?_
                      have g9 := h.1
                      replace h := h.2
                      refine x_iald (pc := 410) K 19 0 rfl rfl g9 dL_looks_410 ?_
                      clear g9
                      obtain ⟨J48, hJ48, h⟩ := xj1_o h
                      have kJ48 : ∀ (v49 : Int32), J48 v49 → xw X 3 110 419 [(0, .ref (V 0)), (1, .ref a_nb), (2, .ref a_area), (3, .ref a_border), (4, .ref a_rest), (5, .int y35), (6, .int x6)] [.int v49] ((wX0J cI cJ cZ cA V land there near worn trial fits ways joined) ++ [(a_nb, .inl (cI, 10, .inl nb)), (a_area, .inl (cI, 10, .inl area)), (a_border, .inl (cI, 50, .inl border)), (a_rest, .inl (cI, 50, .inl rest))]) := by
                        intro v49 hj
                        have h := hJ48 v49 hj
                        refine x_aload_n (pc := 419) K dL_looks_419 0 rfl rfl ?_
                        refine x_iload (pc := 420) K dL_looks_420 6 rfl ?_
                        refine x_wcallSi (pc := 422) (n := 2) K (c0_L_largestPiece l D cI cJ cZ cA V x6 land there near worn trial fits ways joined _ h) rfl rfl gL_looks_L_largestPiece rfl (by decide +kernel) ⟨Nat.le_of_ble_eq_true rfl, Nat.le_of_ble_eq_true rfl⟩ rfl (av := [.ref (V 0), .int x6]) rfl (Nat.le_of_ble_eq_true rfl) [0, 1, 2, 3, 4, 5, 6, 7, 8, 9, 10, 11, 12, 13, 14, 15, 16, 17] [18, 19, 20, 21] (wr := [(a_nb, .inl (cI, 10, .inl nb)), (a_area, .inl (cI, 10, .inl area)), (a_border, .inl (cI, 50, .inl border)), (a_rest, .inl (cI, 50, .inl rest))]) rfl rfl rfl rfl (by decide) dL_looks_422 ⟨Nat.le_of_ble_eq_true rfl, Nat.le_of_ble_eq_true rfl⟩ (fun r50 u9 h => ?_)
                        refine x_wsub (ws' := ((wX0J cI cJ cZ cA V land there near worn trial fits ways joined) ++ [(a_nb, .inl (cI, 10, .inl nb)), (a_area, .inl (cI, 10, .inl area)), (a_border, .inl (cI, 50, .inl border)), (a_rest, .inl (cI, 50, .inl rest))])) [4, 5, 6, 7, 8, 9, 10, 11, 12, 13, 14, 15, 16, 17, 18, 19, 20, 21, 0, 1, 2, 3] rfl rfl ?_
                        obtain ⟨J51, hJ51, h⟩ := xj1_o h
                        have kJ51 : ∀ (v52 : Int32), J51 v52 → xw X 3 110 433 [(0, .ref (V 0)), (1, .ref a_nb), (2, .ref a_area), (3, .ref a_border), (4, .ref a_rest), (5, .int y35), (6, .int x6)] [.int v52, .int v49] ((wX0J cI cJ cZ cA V land there near worn trial fits ways joined) ++ [(a_nb, .inl (cI, 10, .inl nb)), (a_area, .inl (cI, 10, .inl area)), (a_border, .inl (cI, 50, .inl border)), (a_rest, .inl (cI, 50, .inl rest))]) := by
                          intro v52 hj
                          have h := hJ51 v52 hj
                          refine x_icmp_eq (pc := 433) K dL_looks_433 (tgt := 438) (by decide) (fun c9 => ?_) (fun c9 => ?_)
                          · have h := h.1 c9
                            refine x_iconst (v := (0)) (pc := 438) K dL_looks_438 (by decide) ?_
                            refine x_istore (lv' := [(0, .ref (V 0)), (1, .ref a_nb), (2, .ref a_area), (3, .ref a_border), (4, .ref a_rest), (5, .int y35), (6, .int x6), (7, .int (0 : Int32))]) (pc := 439) K dL_looks_439 (by decide) rfl ?_
                            obtain ⟨n56, h⟩ := h
                            refine w_L_looks_L441 K y35 x6 land there near worn trial fits ways joined nb area border rest hE hN hst _ _ n56 (0 : Int32) h (fun  h => ?_) (fun  h => ?_)
                            · refine x_iinc (v := x6 + (1 : Int32)) (lv' := [(0, .ref (V 0)), (1, .ref a_nb), (2, .ref a_area), (3, .ref a_border), (4, .ref a_rest), (5, .int y35), (6, .int (x6 + (1 : Int32)))]) (pc := 499) K dL_looks_499 (k := 6) rfl rfl (by decide) rfl ?_
                              refine x_goto (pc := 502) K dL_looks_502 (tgt := 271) (by decide) ?_
                              exact ih y35 (x6 + (1 : Int32)) h k0 k1 k2
                            · exact k2  h
                          · have h := h.2 c9
                            refine x_keep [false, false, false, false, false, false, false] rfl ?_
                            exact k1  h
                        refine x_if_ne (pc := 425) K dL_looks_425 (tgt := 432) (by decide) (fun c9 => ?_) (fun c9 => ?_)
                        · have h := h.1 c9
                          refine x_iconst (v := (0)) (pc := 432) K dL_looks_432 (by decide) ?_
                          exact kJ51 (0 : Int32) h
                        · have h := h.2 c9
                          refine x_iconst (v := (1)) (pc := 428) K dL_looks_428 (by decide) ?_
                          refine x_goto (pc := 429) K dL_looks_429 (tgt := 433) (by decide) ?_
                          exact kJ51 (1 : Int32) h
                      refine x_if_ne (pc := 411) K dL_looks_411 (tgt := 418) (by decide) (fun c9 => ?_) (fun c9 => ?_)
                      · have h := h.1 c9
                        refine x_iconst (v := (0)) (pc := 418) K dL_looks_418 (by decide) ?_
                        exact kJ48 (0 : Int32) h
                      · have h := h.2 c9
                        refine x_iconst (v := (1)) (pc := 414) K dL_looks_414 (by decide) ?_
                        refine x_goto (pc := 415) K dL_looks_415 (tgt := 419) (by decide) ?_
                        exact kJ48 (1 : Int32) h
                    refine x_icmp_le (pc := 397) K dL_looks_397 (tgt := 407) (by decide) (fun c9 => ?_) (fun c9 => ?_)
                    · have h := h.1 c9
                      exact kJ47  h
                    · have h := h.2 c9
                      refine x_aload_n (pc := 400) K dL_looks_400 2 rfl rfl ?_
                      refine x_iload (pc := 401) K dL_looks_401 6 rfl ?_
                      have g9 := h.1
                      replace h := h.2
                      refine x_iald (pc := 403) K 19 0 rfl rfl g9 dL_looks_403 ?_
                      clear g9
                      refine x_if_gt (pc := 404) K dL_looks_404 (tgt := 436) (by decide) (fun c9 => ?_) (fun c9 => ?_)
                      · have h := h.1 c9
                        refine x_keep [false, false, false, false, false, false, false] rfl ?_
                        exact k1  h
                      · have h := h.2 c9
                        exact kJ47  h
            refine x_if_le (pc := 334) K dL_looks_334 (tgt := 341) (by decide) (fun c9 => ?_) (fun c9 => ?_)
            · have h := h.1 c9
              refine x_iconst (v := (0)) (pc := 341) K dL_looks_341 (by decide) ?_
              exact kJ40 (0 : Int32) h
            · have h := h.2 c9
              refine x_iconst (v := (1)) (pc := 337) K dL_looks_337 (by decide) ?_
              refine x_goto (pc := 338) K dL_looks_338 (tgt := 342) (by decide) ?_
              exact kJ40 (1 : Int32) h
      refine x_if_le (pc := 284) K dL_looks_284 (tgt := 291) (by decide) (fun c9 => ?_) (fun c9 => ?_)
      · have h := h.1 c9
        refine x_keep [true, true, true, true, true, false, true] rfl ?_
        refine x_iconst (v := (0)) (pc := 291) K dL_looks_291 (by decide) ?_
        exact kJ33 (0 : Int32) h
      · have h := h.2 c9
        refine x_keep [true, true, true, true, true, false, true] rfl ?_
        refine x_iconst (v := (1)) (pc := 287) K dL_looks_287 (by decide) ?_
        refine x_goto (pc := 288) K dL_looks_288 (tgt := 292) (by decide) ?_
        exact kJ33 (1 : Int32) h
set_option maxHeartbeats 4000000 in
set_option maxRecDepth 100000 in
theorem c_L_looks (l : Launch) (D : va_G) (cI cJ cZ cA : ClassId) (hst : l.stackTraces = false) (V : Nat → Nat) (a_nb : Nat) (land : Nat → Int64) (there : Int32) (near : Nat → Int32) (worn : Nat → Int32) (trial : Nat → Int32) (fits : Nat → Int32) (ways : Nat → Int64) (joined : Nat → Nat → Int32) (nb : Nat → Int32) (P : Int32 → (Nat → Int32) → Prop) (h : q_L_looks land there near nb P) : xHz l yL_looks wsL_looks rm_L_looks D vwCl (xtys cI cJ cZ cA) ((wX0J cI cJ cZ cA V land there near worn trial fits ways joined) ++ [(a_nb, .inl (cI, 10, .inl nb))]) [.ref (V 0), .ref a_nb] RX0 [(183, "there is no such country")] (σ := (Nat → Int32)) (fun u => ((wX0J cI cJ cZ cA V land there near worn trial fits ways joined) ++ [(a_nb, .inl (cI, 10, .inl u))])) (fun r u => P r u) 7 134 := by
  refine xHz_of (cc := cL_looks) (maxL := 9) (by decide) rfl (Nat.le_of_ble_eq_true rfl) ?_
  intro X K hE hN hX
  have K : xk X l rm_L_looks D vwCl (xtys cI cJ cZ cA) cL_looks RL wsL_looks 9 := K
  unfold q_L_looks at h
  refine x_bipush (v := (10)) (pc := 0) K dL_looks_0 (by decide) ?_
  refine x_newa (pc := 2) (atype := .int) (ty := .int) (a0 := (10, .inl (fun _ => 0))) (N := 10) K 0 rfl (fun _ _ h => h) kL_looks_0 rfl (fun c => (vp_cell_i c 10 (fun _ => 0))) (by decide) (by decide) (by decide) (Nat.le_of_ble_eq_true rfl) (Nat.le_of_ble_eq_true rfl) dL_looks_2 (fun a_area => ?_)
  refine x_ws (ws' := ((wX0J cI cJ cZ cA V land there near worn trial fits ways joined) ++ [(a_nb, .inl (cI, 10, .inl nb)), (a_area, .inl (cI, 10, .inl (fun _ => 0)))])) rfl ?_
  refine x_astore_n (lv' := [(0, .ref (V 0)), (1, .ref a_nb), (2, .ref a_area)]) (pc := 4) K dL_looks_4 rfl (by decide) rfl ?_
  refine x_bipush (v := (50)) (pc := 5) K dL_looks_5 (by decide) ?_
  refine x_newa (pc := 7) (atype := .int) (ty := .int) (a0 := (50, .inl (fun _ => 0))) (N := 50) K 0 rfl (fun _ _ h => h) kL_looks_0 rfl (fun c => (vp_cell_i c 50 (fun _ => 0))) (by decide) (by decide) (by decide) (Nat.le_of_ble_eq_true rfl) (Nat.le_of_ble_eq_true rfl) dL_looks_7 (fun a_border => ?_)
  refine x_ws (ws' := ((wX0J cI cJ cZ cA V land there near worn trial fits ways joined) ++ [(a_nb, .inl (cI, 10, .inl nb)), (a_area, .inl (cI, 10, .inl (fun _ => 0))), (a_border, .inl (cI, 50, .inl (fun _ => 0)))])) rfl ?_
  refine x_astore_n (lv' := [(0, .ref (V 0)), (1, .ref a_nb), (2, .ref a_area), (3, .ref a_border)]) (pc := 9) K dL_looks_9 rfl (by decide) rfl ?_
  refine x_bipush (v := (50)) (pc := 10) K dL_looks_10 (by decide) ?_
  refine x_newa (pc := 12) (atype := .int) (ty := .int) (a0 := (50, .inl (fun _ => 0))) (N := 50) K 0 rfl (fun _ _ h => h) kL_looks_0 rfl (fun c => (vp_cell_i c 50 (fun _ => 0))) (by decide) (by decide) (by decide) (Nat.le_of_ble_eq_true rfl) (Nat.le_of_ble_eq_true rfl) dL_looks_12 (fun a_rest => ?_)
  refine x_ws (ws' := ((wX0J cI cJ cZ cA V land there near worn trial fits ways joined) ++ [(a_nb, .inl (cI, 10, .inl nb)), (a_area, .inl (cI, 10, .inl (fun _ => 0))), (a_border, .inl (cI, 50, .inl (fun _ => 0))), (a_rest, .inl (cI, 50, .inl (fun _ => 0)))])) rfl ?_
  refine x_astore (lv' := [(0, .ref (V 0)), (1, .ref a_nb), (2, .ref a_area), (3, .ref a_border), (4, .ref a_rest)]) (pc := 14) K dL_looks_14 (by decide) rfl ?_
  refine x_iconst (v := (0)) (pc := 16) K dL_looks_16 (by decide) ?_
  refine x_istore (lv' := [(0, .ref (V 0)), (1, .ref a_nb), (2, .ref a_area), (3, .ref a_border), (4, .ref a_rest), (5, .int (0 : Int32))]) (pc := 17) K dL_looks_17 (by decide) rfl ?_
  obtain ⟨n2, h⟩ := h
  refine w_L_looks_L19 K land there near worn trial fits ways joined (fun _ => 0) (fun _ => 0) (fun _ => 0) hE hN hst _ n2 (0 : Int32) nb h (fun v3 h => ?_)
  refine x_iconst (v := (0)) (pc := 37) K dL_looks_37 (by decide) ?_
  refine x_istore (lv' := [(0, .ref (V 0)), (1, .ref a_nb), (2, .ref a_area), (3, .ref a_border), (4, .ref a_rest), (5, .int (0 : Int32))]) (pc := 38) K dL_looks_38 (by decide) rfl ?_
  obtain ⟨n28, h⟩ := h
  refine w_L_looks_L40 K land there near worn trial fits ways joined hE hN hst _ _ n28 (0 : Int32) v3 (fun _ => 0) (fun _ => 0) (fun _ => 0) h (fun v29 v30 v31 v32 h => ?_) (fun v63 v64 v65 v66 h => ?_)
  · refine x_iconst (v := (0)) (pc := 265) K dL_looks_265 (by decide) ?_
    refine x_istore (lv' := [(0, .ref (V 0)), (1, .ref a_nb), (2, .ref a_area), (3, .ref a_border), (4, .ref a_rest), (5, .int (0 : Int32))]) (pc := 266) K dL_looks_266 (by decide) rfl ?_
    refine x_iconst (v := (0)) (pc := 268) K dL_looks_268 (by decide) ?_
    refine x_istore (lv' := [(0, .ref (V 0)), (1, .ref a_nb), (2, .ref a_area), (3, .ref a_border), (4, .ref a_rest), (5, .int (0 : Int32)), (6, .int (0 : Int32))]) (pc := 269) K dL_looks_269 (by decide) rfl ?_
    obtain ⟨n57, h⟩ := h
    refine w_L_looks_L271 K land there near worn trial fits ways joined v29 v30 v31 v32 hE hN hst _ _ _ n57 (0 : Int32) (0 : Int32) h (fun v58 h => ?_) (fun  h => ?_) (fun  h => ?_)
    · refine x_aload_n (pc := 505) K dL_looks_505 0 rfl rfl ?_
      refine x_callVi (pc := 506) (n := 0) K (c_X0_countries l D cI cJ cZ cA V land there near worn trial fits ways _ h) rfl rfl gL_looks_X0_countries rfl (by decide +kernel) ⟨Nat.le_of_ble_eq_true rfl, Nat.le_of_ble_eq_true rfl⟩ rfl (av := []) (b := V 0) (ci := 0) (q0 := 0) rfl rfl rfl (Nat.le_of_ble_eq_true rfl) [0, 1, 2, 3, 4, 5, 6] [7, 8, 9, 10, 11, 12, 13, 14, 15, 16, 17, 18, 19, 20, 21] (wr := (wJ cI cA (V 7) (fun k => V (k + 8)) joined ++ [(a_nb, .inl (cI, 10, .inl v29)), (a_area, .inl (cI, 10, .inl v30)), (a_border, .inl (cI, 50, .inl v31)), (a_rest, .inl (cI, 50, .inl v32))])) rfl rfl rfl rfl (by decide) dL_looks_506 ⟨Nat.le_of_ble_eq_true rfl, Nat.le_of_ble_eq_true rfl⟩ (fun r59 u9 h => ?_)
      refine x_wsub (ws' := ((wX0J cI cJ cZ cA V land there near worn trial fits ways joined) ++ [(a_nb, .inl (cI, 10, .inl v29)), (a_area, .inl (cI, 10, .inl v30)), (a_border, .inl (cI, 50, .inl v31)), (a_rest, .inl (cI, 50, .inl v32))])) [15, 16, 17, 18, 19, 20, 21, 0, 1, 2, 3, 4, 5, 6, 7, 8, 9, 10, 11, 12, 13, 14] rfl rfl ?_
      refine x_iload (pc := 509) K dL_looks_509 1 rfl ?_
      refine x_icmp_ne (pc := 511) K dL_looks_511 (tgt := 550) (by decide) (fun c9 => ?_) (fun c9 => ?_)
      · have h := h.1 c9
        refine x_keep [false, false] rfl ?_
        refine x_iconst (v := (0)) (pc := 550) K dL_looks_550 (by decide) ?_
        refine x_wsub (ws' := ((wX0J cI cJ cZ cA V land there near worn trial fits ways joined) ++ [(a_nb, .inl (cI, 10, .inl v29))])) [0, 1, 2, 3, 4, 5, 6, 7, 8, 9, 10, 11, 12, 13, 14, 15, 16, 17, 18] rfl rfl ?_
        refine x_widen (k := 7) (n := 134) (Nat.le_of_ble_eq_true rfl) (Nat.le_of_ble_eq_true rfl) ?_
        exact hX (0 : Int32) v29 _ _ h.2 h.1 dL_looks_551
      · have h := h.2 c9
        refine x_keep [true, false] rfl ?_
        refine x_aload_n (pc := 514) K dL_looks_514 0 rfl rfl ?_
        refine x_bipush (v := (10)) (pc := 515) K dL_looks_515 (by decide) ?_
        refine x_hcallSi (pc := 517) (n := 2) K hE hN (by decide) (c_L_area l D cI cJ cZ cA hst V (10 : Int32) land there near worn trial fits ways joined _ h) rfl rfl gL_looks_L_area rfl (by decide +kernel) ⟨Nat.le_of_ble_eq_true rfl, Nat.le_of_ble_eq_true rfl⟩ rfl (av := [.ref (V 0), .int (10 : Int32)]) rfl (Nat.le_of_ble_eq_true rfl) [0, 1, 2, 3, 4, 5, 6, 7, 8, 9, 10, 11, 12, 13, 14, 15, 16, 17] [18, 19, 20, 21] (wr := [(a_nb, .inl (cI, 10, .inl v29)), (a_area, .inl (cI, 10, .inl v30)), (a_border, .inl (cI, 50, .inl v31)), (a_rest, .inl (cI, 50, .inl v32))]) rfl rfl rfl rfl (by decide) dL_looks_517 ⟨Nat.le_of_ble_eq_true rfl, Nat.le_of_ble_eq_true rfl⟩ (fun r60 u9 h => ?_)
        refine x_wsub (ws' := ((wX0J cI cJ cZ cA V land there near worn trial fits ways joined) ++ [(a_nb, .inl (cI, 10, .inl v29)), (a_area, .inl (cI, 10, .inl v30)), (a_border, .inl (cI, 50, .inl v31)), (a_rest, .inl (cI, 50, .inl v32))])) [4, 5, 6, 7, 8, 9, 10, 11, 12, 13, 14, 15, 16, 17, 18, 19, 20, 21, 0, 1, 2, 3] rfl rfl ?_
        refine x_ldc (pc := 520) (v := (-1000001)) K kL_looks_1 dL_looks_520 ?_
        refine x_icmp_ne (pc := 522) K dL_looks_522 (tgt := 550) (by decide) (fun c9 => ?_) (fun c9 => ?_)
        · have h := h.1 c9
          refine x_keep [false] rfl ?_
          refine x_iconst (v := (0)) (pc := 550) K dL_looks_550 (by decide) ?_
          refine x_wsub (ws' := ((wX0J cI cJ cZ cA V land there near worn trial fits ways joined) ++ [(a_nb, .inl (cI, 10, .inl v29))])) [0, 1, 2, 3, 4, 5, 6, 7, 8, 9, 10, 11, 12, 13, 14, 15, 16, 17, 18] rfl rfl ?_
          refine x_widen (k := 7) (n := 134) (Nat.le_of_ble_eq_true rfl) (Nat.le_of_ble_eq_true rfl) ?_
          exact hX (0 : Int32) v29 _ _ h.2 h.1 dL_looks_551
        · have h := h.2 c9
          refine x_aload_n (pc := 525) K dL_looks_525 0 rfl rfl ?_
          refine x_iconst (v := (0)) (pc := 526) K dL_looks_526 (by decide) ?_
          refine x_iconst (v := (-1)) (pc := 527) K dL_looks_527 (by decide) ?_
          refine x_hcallSi (pc := 528) (n := 3) K hE hN (by decide) (c_L_border l D cI cJ cZ cA hst V (0 : Int32) (-1 : Int32) land there near worn trial fits ways joined _ h) rfl rfl gL_looks_L_border rfl (by decide +kernel) ⟨Nat.le_of_ble_eq_true rfl, Nat.le_of_ble_eq_true rfl⟩ rfl (av := [.ref (V 0), .int (0 : Int32), .int (-1 : Int32)]) rfl (Nat.le_of_ble_eq_true rfl) [0, 1, 2, 3, 4, 5, 6, 7, 8, 9, 10, 11, 12, 13, 14, 15, 16, 17] [18, 19, 20, 21] (wr := [(a_nb, .inl (cI, 10, .inl v29)), (a_area, .inl (cI, 10, .inl v30)), (a_border, .inl (cI, 50, .inl v31)), (a_rest, .inl (cI, 50, .inl v32))]) rfl rfl rfl rfl (by decide) dL_looks_528 ⟨Nat.le_of_ble_eq_true rfl, Nat.le_of_ble_eq_true rfl⟩ (fun r61 u9 h => ?_)
          refine x_wsub (ws' := ((wX0J cI cJ cZ cA V land there near worn trial fits ways joined) ++ [(a_nb, .inl (cI, 10, .inl v29)), (a_area, .inl (cI, 10, .inl v30)), (a_border, .inl (cI, 50, .inl v31)), (a_rest, .inl (cI, 50, .inl v32))])) [4, 5, 6, 7, 8, 9, 10, 11, 12, 13, 14, 15, 16, 17, 18, 19, 20, 21, 0, 1, 2, 3] rfl rfl ?_
          refine x_ldc (pc := 531) (v := (-1000001)) K kL_looks_1 dL_looks_531 ?_
          refine x_icmp_ne (pc := 533) K dL_looks_533 (tgt := 550) (by decide) (fun c9 => ?_) (fun c9 => ?_)
          · have h := h.1 c9
            refine x_keep [false] rfl ?_
            refine x_iconst (v := (0)) (pc := 550) K dL_looks_550 (by decide) ?_
            refine x_wsub (ws' := ((wX0J cI cJ cZ cA V land there near worn trial fits ways joined) ++ [(a_nb, .inl (cI, 10, .inl v29))])) [0, 1, 2, 3, 4, 5, 6, 7, 8, 9, 10, 11, 12, 13, 14, 15, 16, 17, 18] rfl rfl ?_
            refine x_widen (k := 7) (n := 134) (Nat.le_of_ble_eq_true rfl) (Nat.le_of_ble_eq_true rfl) ?_
            exact hX (0 : Int32) v29 _ _ h.2 h.1 dL_looks_551
          · have h := h.2 c9
            refine x_aload_n (pc := 536) K dL_looks_536 0 rfl rfl ?_
            refine x_iconst (v := (-1)) (pc := 537) K dL_looks_537 (by decide) ?_
            refine x_hcallSi (pc := 538) (n := 2) K hE hN (by decide) (c_L_pieces l D cI cJ cZ cA hst V (-1 : Int32) land there near worn trial fits ways joined _ h) rfl rfl gL_looks_L_pieces rfl (by decide +kernel) ⟨Nat.le_of_ble_eq_true rfl, Nat.le_of_ble_eq_true rfl⟩ rfl (av := [.ref (V 0), .int (-1 : Int32)]) rfl (Nat.le_of_ble_eq_true rfl) [0, 1, 2, 3, 4, 5, 6, 7, 8, 9, 10, 11, 12, 13, 14, 15, 16, 17] [18, 19, 20, 21] (wr := [(a_nb, .inl (cI, 10, .inl v29)), (a_area, .inl (cI, 10, .inl v30)), (a_border, .inl (cI, 50, .inl v31)), (a_rest, .inl (cI, 50, .inl v32))]) rfl rfl rfl rfl (by decide) dL_looks_538 ⟨Nat.le_of_ble_eq_true rfl, Nat.le_of_ble_eq_true rfl⟩ (fun r62 u9 h => ?_)
            refine x_wsub (ws' := ((wX0J cI cJ cZ cA V land there near worn trial fits ways joined) ++ [(a_nb, .inl (cI, 10, .inl v29)), (a_area, .inl (cI, 10, .inl v30)), (a_border, .inl (cI, 50, .inl v31)), (a_rest, .inl (cI, 50, .inl v32))])) [4, 5, 6, 7, 8, 9, 10, 11, 12, 13, 14, 15, 16, 17, 18, 19, 20, 21, 0, 1, 2, 3] rfl rfl ?_
            refine x_ldc (pc := 541) (v := (-1000001)) K kL_looks_1 dL_looks_541 ?_
            refine x_icmp_ne (pc := 543) K dL_looks_543 (tgt := 550) (by decide) (fun c9 => ?_) (fun c9 => ?_)
            · have h := h.1 c9
              refine x_keep [false] rfl ?_
              refine x_iconst (v := (0)) (pc := 550) K dL_looks_550 (by decide) ?_
              refine x_wsub (ws' := ((wX0J cI cJ cZ cA V land there near worn trial fits ways joined) ++ [(a_nb, .inl (cI, 10, .inl v29))])) [0, 1, 2, 3, 4, 5, 6, 7, 8, 9, 10, 11, 12, 13, 14, 15, 16, 17, 18] rfl rfl ?_
              exact hX (0 : Int32) v29 _ _ h.2 h.1 dL_looks_551
            · have h := h.2 c9
              refine x_keep [false] rfl ?_
              refine x_iconst (v := (1)) (pc := 546) K dL_looks_546 (by decide) ?_
              refine x_goto (pc := 547) K dL_looks_547 (tgt := 551) (by decide) ?_
              refine x_wsub (ws' := ((wX0J cI cJ cZ cA V land there near worn trial fits ways joined) ++ [(a_nb, .inl (cI, 10, .inl v29))])) [0, 1, 2, 3, 4, 5, 6, 7, 8, 9, 10, 11, 12, 13, 14, 15, 16, 17, 18] rfl rfl ?_
              exact hX (1 : Int32) v29 _ _ h.2 h.1 dL_looks_551
    · refine x_iconst (v := (0)) (pc := 436) K dL_looks_436 (by decide) ?_
      refine x_wsub (ws' := ((wX0J cI cJ cZ cA V land there near worn trial fits ways joined) ++ [(a_nb, .inl (cI, 10, .inl v29))])) [0, 1, 2, 3, 4, 5, 6, 7, 8, 9, 10, 11, 12, 13, 14, 15, 16, 17, 18] rfl rfl ?_
      refine x_widen (k := 7) (n := 134) (Nat.le_of_ble_eq_true rfl) (Nat.le_of_ble_eq_true rfl) ?_
      exact hX (0 : Int32) v29 _ _ h.2 h.1 dL_looks_437
    · refine x_iconst (v := (0)) (pc := 491) K dL_looks_491 (by decide) ?_
      refine x_wsub (ws' := ((wX0J cI cJ cZ cA V land there near worn trial fits ways joined) ++ [(a_nb, .inl (cI, 10, .inl v29))])) [0, 1, 2, 3, 4, 5, 6, 7, 8, 9, 10, 11, 12, 13, 14, 15, 16, 17, 18] rfl rfl ?_
      refine x_widen (k := 7) (n := 134) (Nat.le_of_ble_eq_true rfl) (Nat.le_of_ble_eq_true rfl) ?_
      exact hX (0 : Int32) v29 _ _ h.2 h.1 dL_looks_492
  · refine x_iconst (v := (0)) (pc := 76) K dL_looks_76 (by decide) ?_
    refine x_wsub (ws' := ((wX0J cI cJ cZ cA V land there near worn trial fits ways joined) ++ [(a_nb, .inl (cI, 10, .inl v63))])) [0, 1, 2, 3, 4, 5, 6, 7, 8, 9, 10, 11, 12, 13, 14, 15, 16, 17, 18] rfl rfl ?_
    refine x_widen (k := 7) (n := 134) (Nat.le_of_ble_eq_true rfl) (Nat.le_of_ble_eq_true rfl) ?_
    exact hX (0 : Int32) v63 _ _ h.2 h.1 dL_looks_77
