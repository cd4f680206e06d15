abbrev rm_X0_ownerOf : Room := { frames := 8, cells := 0, slots := 0, locals := 120 }
theorem inX0_ownerOf : ∀ w ∈ u_ws RX0 TX0 8, w ∈ wsX0_ownerOf := by decide +kernel
theorem kX0_ownerOf_0 : Cond.fieldLink RX0 9 "FourTints" "land" "[J" ∈ wsX0_ownerOf := by decide +kernel
def q_X0_ownerOf_L2 (u1 : Int64) (land : Nat → Int64) (P0 : Prop) (P1 : Int32 → Prop) : Nat → Int32 → Prop
  | 0, _ => False
  | n + 1, x3 => (((10 : Int32) ≤ x3 → P0) ∧ (¬ (10 : Int32) ≤ x3 → xin x3 10 = true ∧ (((lg_cmp ((land x3.toNatClampNeg) &&& u1) (0 : Int64)) = (0 : Int32) → q_X0_ownerOf_L2 u1 land P0 P1 n (x3 + (1 : Int32))) ∧ (¬ (lg_cmp ((land x3.toNatClampNeg) &&& u1) (0 : Int64)) = (0 : Int32) → P1 x3))))
def q_X0_ownerOf (p1 : Int64) (land : Nat → Int64) (P : Int32 → Prop) : Prop := (∃ n1 : Nat, q_X0_ownerOf_L2 p1 land (P (-1 : Int32)) (fun (v2 : Int32) => P v2) n1 (0 : Int32))
set_option maxHeartbeats 4000000 in
set_option maxRecDepth 100000 in
theorem w_X0_ownerOf_L2 {X : xC} {l : Launch} {D : va_G} {cI cJ cZ cA : ClassId} {V : Nat → Nat} (K : xk X l rm_X0_ownerOf D vwCl (xtys cI cJ cZ cA) cX0_ownerOf RX0 wsX0_ownerOf 4) (u1 : Int64) (land : Nat → Int64) (there : Int32) (near : Nat → Int32) (worn : Nat → Int32) (trial : Nat → Int32) (fits : Nat → Int32) (ways : Nat → Int64) (P0 : Prop) (P1 : Int32 → Prop) : ∀ (n : Nat) (x3 : Int32), q_X0_ownerOf_L2 u1 land P0 P1 n x3 → (P0 → xw X 0 0 29 [] [] (wX0 cI cJ cZ cA V land there near worn trial fits ways)) → (∀ (z0 : Int32), P1 z0 → xw X 0 0 21 [(3, .int z0)] [] (wX0 cI cJ cZ cA V land there near worn trial fits ways)) → xw X 0 0 2 [(0, .ref (V 0)), (1, .long u1), (3, .int x3)] [] (wX0 cI cJ cZ cA V land there near worn trial fits ways) := by
  intro n
  induction n with
  | zero =>
    intro x3 h
    rw [q_X0_ownerOf_L2] at h
    exact h.elim
  | succ n ih =>
    intro x3 h k0 k1
    rw [q_X0_ownerOf_L2] at h
    refine x_iload_n (pc := 2) K dX0_ownerOf_2 2 rfl rfl ?_
    refine x_bipush (v := (10)) (pc := 3) K dX0_ownerOf_3 (by decide) ?_
    refine x_icmp_ge (pc := 5) K dX0_ownerOf_5 (tgt := 29) (by decide) (fun c9 => ?_) (fun c9 => ?_)
    · have h := h.1 c9
      refine x_keep [false, false, false] rfl ?_
      exact k0  h
    · have h := h.2 c9
      refine x_aload_n (pc := 8) K dX0_ownerOf_8 0 rfl rfl ?_
      refine x_get (pc := 9) (ci := 0) (C := RX0) (T := TX0) (N := 8) K (inX0_ownerOf) 0 rfl rfl 0 (by decide) kX0_ownerOf_0 rfl rfl dX0_ownerOf_9 ?_
      refine x_iload_n (pc := 12) K dX0_ownerOf_12 2 rfl rfl ?_
      have g9 := h.1
      replace h := h.2
      refine x_lald (pc := 13) K 1 1 rfl rfl g9 dX0_ownerOf_13 ?_
      clear g9
      refine x_lload_n (pc := 14) K dX0_ownerOf_14 1 rfl rfl ?_
      refine x_land (pc := 15) K dX0_ownerOf_15 ?_
      refine x_lconst (v := (0)) (pc := 16) K dX0_ownerOf_16 (by decide) ?_
      refine x_lcmp (pc := 17) K dX0_ownerOf_17 ?_
      refine x_if_eq (pc := 18) K dX0_ownerOf_18 (tgt := 23) (by decide) (fun c9 => ?_) (fun c9 => ?_)
      · have h := h.1 c9
        refine x_iinc (v := x3 + (1 : Int32)) (lv' := [(0, .ref (V 0)), (1, .long u1), (3, .int (x3 + (1 : Int32)))]) (pc := 23) K dX0_ownerOf_23 (k := 2) rfl rfl (by decide) rfl ?_
        refine x_goto (pc := 26) K dX0_ownerOf_26 (tgt := 2) (by decide) ?_
        exact ih (x3 + (1 : Int32)) h k0 k1
      · have h := h.2 c9
        refine x_keep [false, false, true] rfl ?_
        exact k1 x3 h
set_option maxHeartbeats 4000000 in
set_option maxRecDepth 100000 in
theorem c_X0_ownerOf (l : Launch) (D : va_G) (cI cJ cZ cA : ClassId) (V : Nat → Nat) (p1 : Int64) (land : Nat → Int64) (there : Int32) (near : Nat → Int32) (worn : Nat → Int32) (trial : Nat → Int32) (fits : Nat → Int32) (ways : Nat → Int64) (P : Int32 → Prop) (h : q_X0_ownerOf p1 land P) : xMi l yX0_ownerOf wsX0_ownerOf rm_X0_ownerOf D vwCl (xtys cI cJ cZ cA) (wX0 cI cJ cZ cA V land there near worn trial fits ways) [.ref (V 0), .long p1] (σ := Unit) (fun _ => (wX0 cI cJ cZ cA V land there near worn trial fits ways)) (fun r _ => P r) := by
  refine xMi_of (cc := cX0_ownerOf) (maxL := 4) (by decide) rfl (Nat.le_of_ble_eq_true rfl) ?_
  intro X K hE
  have K : xk X l rm_X0_ownerOf D vwCl (xtys cI cJ cZ cA) cX0_ownerOf RX0 wsX0_ownerOf 4 := K
  unfold q_X0_ownerOf at h
  refine x_iconst (v := (0)) (pc := 0) K dX0_ownerOf_0 (by decide) ?_
  refine x_istore_n (lv' := [(0, .ref (V 0)), (1, .long p1), (3, .int (0 : Int32))]) (pc := 1) K dX0_ownerOf_1 rfl (by decide) rfl ?_
  obtain ⟨n1, h⟩ := h
  refine w_X0_ownerOf_L2 K p1 land there near worn trial fits ways _ _ n1 (0 : Int32) h (fun  h => ?_) (fun v2 h => ?_)
  · refine x_iconst (v := (-1)) (pc := 29) K dX0_ownerOf_29 (by decide) ?_
    exact hE (-1 : Int32) () _ _ h dX0_ownerOf_30
  · refine x_iload_n (pc := 21) K dX0_ownerOf_21 0 rfl rfl ?_
    exact hE v2 () _ _ h dX0_ownerOf_22
abbrev rm_X0_cellsOf : Room := { frames := 8, cells := 0, slots := 0, locals := 120 }
theorem inX0_cellsOf : ∀ w ∈ u_ws RX0 TX0 8, w ∈ wsX0_cellsOf := by decide +kernel
theorem kX0_cellsOf_0 : Cond.constantLong RX0 110 (68719476735) ∈ wsX0_cellsOf := by decide +kernel
theorem kX0_cellsOf_1 : Cond.fieldLink RX0 9 "FourTints" "land" "[J" ∈ wsX0_cellsOf := by decide +kernel
theorem kX0_cellsOf_2 : Cond.constantLong RX0 70 (-1) ∈ wsX0_cellsOf := by decide +kernel
def q_X0_cellsOf_L24 (land : Nat → Int64) (P0 : Int64 → Prop) : Nat → Int64 → Int32 → Prop
  | 0, _, _ => False
  | n + 1, x2, x4 => (((10 : Int32) ≤ x4 → P0 x2) ∧ (¬ (10 : Int32) ≤ x4 → xin x4 10 = true ∧ xl (x2 &&& ((land x4.toNatClampNeg) ^^^ (-1 : Int64))) (fun y2 => q_X0_cellsOf_L24 land P0 n y2 (x4 + (1 : Int32)))))
def q_X0_cellsOf (p1 : Int32) (land : Nat → Int64) (P : Int64 → Prop) : Prop := xj0 ((∃ n3 : Nat, q_X0_cellsOf_L24 land (fun (v4 : Int64) => P v4) n3 (68719476735 : Int64) (0 : Int32))) (fun (J1 : Prop) => ((p1 < (0 : Int32) → J1) ∧ (¬ p1 < (0 : Int32) → (((10 : Int32) ≤ p1 → J1) ∧ (¬ (10 : Int32) ≤ p1 → xin p1 10 = true ∧ P (land p1.toNatClampNeg))))))
set_option maxHeartbeats 4000000 in
set_option maxRecDepth 100000 in
theorem w_X0_cellsOf_L24 {X : xC} {l : Launch} {D : va_G} {cI cJ cZ cA : ClassId} {V : Nat → Nat} (K : xk X l rm_X0_cellsOf D vwCl (xtys cI cJ cZ cA) cX0_cellsOf RX0 wsX0_cellsOf 5) (land : Nat → Int64) (there : Int32) (near : Nat → Int32) (worn : Nat → Int32) (trial : Nat → Int32) (fits : Nat → Int32) (ways : Nat → Int64) (P0 : Int64 → Prop) : ∀ (n : Nat) (x2 : Int64) (x4 : Int32), q_X0_cellsOf_L24 land P0 n x2 x4 → (∀ (z0 : Int64), P0 z0 → xw X 0 0 51 [(2, .long z0)] [] (wX0 cI cJ cZ cA V land there near worn trial fits ways)) → xw X 0 0 24 [(0, .ref (V 0)), (2, .long x2), (4, .int x4)] [] (wX0 cI cJ cZ cA V land there near worn trial fits ways) := by
  intro n
  induction n with
  | zero =>
    intro x2 x4 h
    rw [q_X0_cellsOf_L24] at h
    exact h.elim
  | succ n ih =>
    intro x2 x4 h k0
    rw [q_X0_cellsOf_L24] at h
    refine x_iload (pc := 24) K dX0_cellsOf_24 2 rfl ?_
    refine x_bipush (v := (10)) (pc := 26) K dX0_cellsOf_26 (by decide) ?_
    refine x_icmp_ge (pc := 28) K dX0_cellsOf_28 (tgt := 51) (by decide) (fun c9 => ?_) (fun c9 => ?_)
    · have h := h.1 c9
      refine x_keep [false, true, false] rfl ?_
      exact k0 x2 h
    · have h := h.2 c9
      refine x_lload_n (pc := 31) K dX0_cellsOf_31 1 rfl rfl ?_
      refine x_aload_n (pc := 32) K dX0_cellsOf_32 0 rfl rfl ?_
      refine x_get (pc := 33) (ci := 0) (C := RX0) (T := TX0) (N := 8) K (inX0_cellsOf) 0 rfl rfl 0 (by decide) kX0_cellsOf_1 rfl rfl dX0_cellsOf_33 ?_
      refine x_iload (pc := 36) K dX0_cellsOf_36 2 rfl ?_
      have g9 := h.1
      replace h := h.2
      refine x_lald (pc := 38) K 1 1 rfl rfl g9 dX0_cellsOf_38 ?_
      clear g9
      refine x_ldc2 (pc := 39) (v := (-1)) K kX0_cellsOf_2 dX0_cellsOf_39 ?_
      refine x_lxor (pc := 42) K dX0_cellsOf_42 ?_
      refine x_land (pc := 43) K dX0_cellsOf_43 ?_
      obtain ⟨y2, ey2, h⟩ := xl_o h
      refine x_topl ey2 ?_
      clear ey2
      refine x_lstore_n (lv' := [(0, .ref (V 0)), (2, .long y2), (4, .int x4)]) (pc := 44) K dX0_cellsOf_44 rfl (by decide) rfl ?_
      refine x_iinc (v := x4 + (1 : Int32)) (lv' := [(0, .ref (V 0)), (2, .long y2), (4, .int (x4 + (1 : Int32)))]) (pc := 45) K dX0_cellsOf_45 (k := 2) rfl rfl (by decide) rfl ?_
      refine x_goto (pc := 48) K dX0_cellsOf_48 (tgt := 24) (by decide) ?_
      exact ih y2 (x4 + (1 : Int32)) h k0
set_option maxHeartbeats 4000000 in
set_option maxRecDepth 100000 in
theorem c_X0_cellsOf (l : Launch) (D : va_G) (cI cJ cZ cA : ClassId) (V : Nat → Nat) (p1 : Int32) (land : Nat → Int64) (there : Int32) (near : Nat → Int32) (worn : Nat → Int32) (trial : Nat → Int32) (fits : Nat → Int32) (ways : Nat → Int64) (P : Int64 → Prop) (h : q_X0_cellsOf p1 land P) : xMl l yX0_cellsOf wsX0_cellsOf rm_X0_cellsOf D vwCl (xtys cI cJ cZ cA) (wX0 cI cJ cZ cA V land there near worn trial fits ways) [.ref (V 0), .int p1] (σ := Unit) (fun _ => (wX0 cI cJ cZ cA V land there near worn trial fits ways)) (fun r _ => P r) := by
  refine xMl_of (cc := cX0_cellsOf) (maxL := 5) (by decide) rfl (Nat.le_of_ble_eq_true rfl) ?_
  intro X K hE
  have K : xk X l rm_X0_cellsOf D vwCl (xtys cI cJ cZ cA) cX0_cellsOf RX0 wsX0_cellsOf 5 := K
  unfold q_X0_cellsOf at h
  refine x_iload_n (pc := 0) K dX0_cellsOf_0 1 rfl rfl ?_
  obtain ⟨J1, hJ1, h⟩ := xj0_o h
  have kJ1 : J1 → xw X 0 0 17 [(0, .ref (V 0))] [] (wX0 cI cJ cZ cA V land there near worn trial fits ways) := by
    intro  hj
    have h := hJ1  hj
    refine x_ldc2 (pc := 17) (v := (68719476735)) K kX0_cellsOf_0 dX0_cellsOf_17 ?_
    refine x_lstore_n (lv' := [(0, .ref (V 0)), (2, .long (68719476735 : Int64))]) (pc := 20) K dX0_cellsOf_20 rfl (by decide) rfl ?_
    refine x_iconst (v := (0)) (pc := 21) K dX0_cellsOf_21 (by decide) ?_
    refine x_istore (lv' := [(0, .ref (V 0)), (2, .long (68719476735 : Int64)), (4, .int (0 : Int32))]) (pc := 22) K dX0_cellsOf_22 (by decide) rfl ?_
    obtain ⟨n3, h⟩ := h
    refine w_X0_cellsOf_L24 K land there near worn trial fits ways _ n3 (68719476735 : Int64) (0 : Int32) h (fun v4 h => ?_)
    refine x_lload_n (pc := 51) K dX0_cellsOf_51 0 rfl rfl ?_
    exact hE v4 () _ _ h dX0_cellsOf_52
  refine x_if_lt (pc := 1) K dX0_cellsOf_1 (tgt := 17) (by decide) (fun c9 => ?_) (fun c9 => ?_)
  · have h := h.1 c9
    refine x_keep [true, false] rfl ?_
    exact kJ1  h
  · have h := h.2 c9
    refine x_iload_n (pc := 4) K dX0_cellsOf_4 1 rfl rfl ?_
    refine x_bipush (v := (10)) (pc := 5) K dX0_cellsOf_5 (by decide) ?_
    refine x_icmp_ge (pc := 7) K dX0_cellsOf_7 (tgt := 17) (by decide) (fun c9 => ?_) (fun c9 => ?_)
    · have h := h.1 c9
      refine x_keep [true, false] rfl ?_
      exact kJ1  h
    · have h := h.2 c9
      refine x_aload_n (pc := 10) K dX0_cellsOf_10 0 rfl rfl ?_
      refine x_get (pc := 11) (ci := 0) (C := RX0) (T := TX0) (N := 8) K (inX0_cellsOf) 0 rfl rfl 0 (by decide) kX0_cellsOf_1 rfl rfl dX0_cellsOf_11 ?_
      refine x_iload_n (pc := 14) K dX0_cellsOf_14 1 rfl rfl ?_
      have g9 := h.1
      replace h := h.2
      refine x_lald (pc := 15) K 1 1 rfl rfl g9 dX0_cellsOf_15 ?_
      clear g9
      exact hE (land p1.toNatClampNeg) () _ _ h dX0_cellsOf_16
abbrev rm_X0_thoseIn : Room := { frames := 8, cells := 0, slots := 0, locals := 120 }
theorem inX0_thoseIn : ∀ w ∈ u_ws RX0 TX0 8, w ∈ wsX0_thoseIn := by decide +kernel
theorem kX0_thoseIn_0 : Cond.fieldLink RX0 9 "FourTints" "land" "[J" ∈ wsX0_thoseIn := by decide +kernel
def q_X0_thoseIn_L5 (u1 : Int64) (land : Nat → Int64) (P0 : Int32 → Prop) : Nat → Int32 → Int32 → Prop
  | 0, _, _ => False
  | n + 1, x3, x4 => (((10 : Int32) ≤ x4 → P0 x3) ∧ (¬ (10 : Int32) ≤ x4 → xin x4 10 = true ∧ (((lg_cmp ((land x4.toNatClampNeg) &&& u1) (0 : Int64)) = (0 : Int32) → q_X0_thoseIn_L5 u1 land P0 n x3 (x4 + (1 : Int32))) ∧ (¬ (lg_cmp ((land x4.toNatClampNeg) &&& u1) (0 : Int64)) = (0 : Int32) → xl (x3 ||| ((1 : Int32) <<< (x4 &&& 31))) (fun y1 => q_X0_thoseIn_L5 u1 land P0 n y1 (x4 + (1 : Int32)))))))
def q_X0_thoseIn (p1 : Int64) (land : Nat → Int64) (P : Int32 → Prop) : Prop := (∃ n2 : Nat, q_X0_thoseIn_L5 p1 land (fun (v3 : Int32) => P v3) n2 (0 : Int32) (0 : Int32))
set_option maxHeartbeats 4000000 in
set_option maxRecDepth 100000 in
theorem w_X0_thoseIn_L5 {X : xC} {l : Launch} {D : va_G} {cI cJ cZ cA : ClassId} {V : Nat → Nat} (K : xk X l rm_X0_thoseIn D vwCl (xtys cI cJ cZ cA) cX0_thoseIn RX0 wsX0_thoseIn 5) (u1 : Int64) (land : Nat → Int64) (there : Int32) (near : Nat → Int32) (worn : Nat → Int32) (trial : Nat → Int32) (fits : Nat → Int32) (ways : Nat → Int64) (P0 : Int32 → Prop) : ∀ (n : Nat) (x3 : Int32) (x4 : Int32), q_X0_thoseIn_L5 u1 land P0 n x3 x4 → (∀ (z0 : Int32), P0 z0 → xw X 0 0 39 [(3, .int z0)] [] (wX0 cI cJ cZ cA V land there near worn trial fits ways)) → xw X 0 0 5 [(0, .ref (V 0)), (1, .long u1), (3, .int x3), (4, .int x4)] [] (wX0 cI cJ cZ cA V land there near worn trial fits ways) := by
  intro n
  induction n with
  | zero =>
    intro x3 x4 h
    rw [q_X0_thoseIn_L5] at h
    exact h.elim
  | succ n ih =>
    intro x3 x4 h k0
    rw [q_X0_thoseIn_L5] at h
    refine x_iload (pc := 5) K dX0_thoseIn_5 3 rfl ?_
    refine x_bipush (v := (10)) (pc := 7) K dX0_thoseIn_7 (by decide) ?_
    refine x_icmp_ge (pc := 9) K dX0_thoseIn_9 (tgt := 39) (by decide) (fun c9 => ?_) (fun c9 => ?_)
    · have h := h.1 c9
      refine x_keep [false, false, true, false] rfl ?_
      exact k0 x3 h
    · have h := h.2 c9
      refine x_aload_n (pc := 12) K dX0_thoseIn_12 0 rfl rfl ?_
      refine x_get (pc := 13) (ci := 0) (C := RX0) (T := TX0) (N := 8) K (inX0_thoseIn) 0 rfl rfl 0 (by decide) kX0_thoseIn_0 rfl rfl dX0_thoseIn_13 ?_
      refine x_iload (pc := 16) K dX0_thoseIn_16 3 rfl ?_
      have g9 := h.1
      replace h := h.2
      refine x_lald (pc := 18) K 1 1 rfl rfl g9 dX0_thoseIn_18 ?_
      clear g9
      refine x_lload_n (pc := 19) K dX0_thoseIn_19 1 rfl rfl ?_
      refine x_land (pc := 20) K dX0_thoseIn_20 ?_
      refine x_lconst (v := (0)) (pc := 21) K dX0_thoseIn_21 (by decide) ?_
      refine x_lcmp (pc := 22) K dX0_thoseIn_22 ?_
      refine x_if_eq (pc := 23) K dX0_thoseIn_23 (tgt := 33) (by decide) (fun c9 => ?_) (fun c9 => ?_)
      · have h := h.1 c9
        refine x_iinc (v := x4 + (1 : Int32)) (lv' := [(0, .ref (V 0)), (1, .long u1), (3, .int x3), (4, .int (x4 + (1 : Int32)))]) (pc := 33) K dX0_thoseIn_33 (k := 3) rfl rfl (by decide) rfl ?_
        refine x_goto (pc := 36) K dX0_thoseIn_36 (tgt := 5) (by decide) ?_
        exact ih x3 (x4 + (1 : Int32)) h k0
      · have h := h.2 c9
        refine x_iload_n (pc := 26) K dX0_thoseIn_26 2 rfl rfl ?_
        refine x_iconst (v := (1)) (pc := 27) K dX0_thoseIn_27 (by decide) ?_
        refine x_iload (pc := 28) K dX0_thoseIn_28 3 rfl ?_
        refine x_ishl (pc := 30) K dX0_thoseIn_30 ?_
        refine x_ior (pc := 31) K dX0_thoseIn_31 ?_
        obtain ⟨y1, ey1, h⟩ := xl_o h
        refine x_topi ey1 ?_
        clear ey1
        refine x_istore_n (lv' := [(0, .ref (V 0)), (1, .long u1), (3, .int y1), (4, .int x4)]) (pc := 32) K dX0_thoseIn_32 rfl (by decide) rfl ?_
        refine x_iinc (v := x4 + (1 : Int32)) (lv' := [(0, .ref (V 0)), (1, .long u1), (3, .int y1), (4, .int (x4 + (1 : Int32)))]) (pc := 33) K dX0_thoseIn_33 (k := 3) rfl rfl (by decide) rfl ?_
        refine x_goto (pc := 36) K dX0_thoseIn_36 (tgt := 5) (by decide) ?_
        exact ih y1 (x4 + (1 : Int32)) h k0
set_option maxHeartbeats 4000000 in
set_option maxRecDepth 100000 in
theorem c_X0_thoseIn (l : Launch) (D : va_G) (cI cJ cZ cA : ClassId) (V : Nat → Nat) (p1 : Int64) (land : Nat → Int64) (there : Int32) (near : Nat → Int32) (worn : Nat → Int32) (trial : Nat → Int32) (fits : Nat → Int32) (ways : Nat → Int64) (P : Int32 → Prop) (h : q_X0_thoseIn p1 land P) : xMi l yX0_thoseIn wsX0_thoseIn rm_X0_thoseIn D vwCl (xtys cI cJ cZ cA) (wX0 cI cJ cZ cA V land there near worn trial fits ways) [.ref (V 0), .long p1] (σ := Unit) (fun _ => (wX0 cI cJ cZ cA V land there near worn trial fits ways)) (fun r _ => P r) := by
  refine xMi_of (cc := cX0_thoseIn) (maxL := 5) (by decide) rfl (Nat.le_of_ble_eq_true rfl) ?_
  intro X K hE
  have K : xk X l rm_X0_thoseIn D vwCl (xtys cI cJ cZ cA) cX0_thoseIn RX0 wsX0_thoseIn 5 := K
  unfold q_X0_thoseIn at h
  refine x_iconst (v := (0)) (pc := 0) K dX0_thoseIn_0 (by decide) ?_
  refine x_istore_n (lv' := [(0, .ref (V 0)), (1, .long p1), (3, .int (0 : Int32))]) (pc := 1) K dX0_thoseIn_1 rfl (by decide) rfl ?_
  refine x_iconst (v := (0)) (pc := 2) K dX0_thoseIn_2 (by decide) ?_
  refine x_istore (lv' := [(0, .ref (V 0)), (1, .long p1), (3, .int (0 : Int32)), (4, .int (0 : Int32))]) (pc := 3) K dX0_thoseIn_3 (by decide) rfl ?_
  obtain ⟨n2, h⟩ := h
  refine w_X0_thoseIn_L5 K p1 land there near worn trial fits ways _ n2 (0 : Int32) (0 : Int32) h (fun v3 h => ?_)
  refine x_iload_n (pc := 39) K dX0_thoseIn_39 0 rfl rfl ?_
  exact hE v3 () _ _ h dX0_thoseIn_40
abbrev rm_X0_findNeighbours : Room := { frames := 10, cells := 0, slots := 0, locals := 200 }
theorem inX0_findNeighbours : ∀ w ∈ u_ws RX0 TX0 8, w ∈ wsX0_findNeighbours := by decide +kernel
theorem kX0_findNeighbours_0 : Cond.fieldLink RX0 13 "FourTints" "there" "I" ∈ wsX0_findNeighbours := by decide +kernel
theorem kX0_findNeighbours_1 : Cond.fieldLink RX0 9 "FourTints" "land" "[J" ∈ wsX0_findNeighbours := by decide +kernel
theorem kX0_findNeighbours_2 : Cond.fieldLink RX0 17 "FourTints" "near" "[I" ∈ wsX0_findNeighbours := by decide +kernel
def q_X0_findNeighbours_L7 (land : Nat → Int64) (P0 : Int32 → (Nat → Int32) → Prop) : Nat → Int32 → Int32 → (Nat → Int32) → Prop
  | 0, _, _, _ => False
  | n + 1, x1, there, near => (((10 : Int32) ≤ x1 → P0 there near) ∧ (¬ (10 : Int32) ≤ x1 → xin x1 10 = true ∧ xj1 (fun (v2 : Int32) => xin x1 10 = true ∧ q_X0_spread (land x1.toNatClampNeg) (fun (r3 : Int64) => q_X0_thoseIn r3 land (fun (r4 : Int32) => xin x1 10 = true ∧ q_X0_findNeighbours_L7 land P0 n (x1 + (1 : Int32)) v2 (upd near x1.toNatClampNeg (r4 &&& (((1 : Int32) <<< (x1 &&& 31)) ^^^ (-1 : Int32))))))) (fun (J1 : Int32 → Prop) => (((lg_cmp (land x1.toNatClampNeg) (0 : Int64)) = (0 : Int32) → J1 there) ∧ (¬ (lg_cmp (land x1.toNatClampNeg) (0 : Int64)) = (0 : Int32) → J1 (there ||| ((1 : Int32) <<< (x1 &&& 31))))))))
def q_X0_findNeighbours (land : Nat → Int64) (near : Nat → Int32) (P : Int32 → (Nat → Int32) → Prop) : Prop := (∃ n6 : Nat, q_X0_findNeighbours_L7 land (fun (v7 : Int32) (v8 : Nat → Int32) => P v7 v8) n6 (0 : Int32) (0 : Int32) near)
set_option maxHeartbeats 4000000 in
set_option maxRecDepth 100000 in
theorem w_X0_findNeighbours_L7 {X : xC} {l : Launch} {D : va_G} {cI cJ cZ cA : ClassId} {V : Nat → Nat} (K : xk X l rm_X0_findNeighbours D vwCl (xtys cI cJ cZ cA) cX0_findNeighbours RX0 wsX0_findNeighbours 2) (land : Nat → Int64) (worn : Nat → Int32) (trial : Nat → Int32) (fits : Nat → Int32) (ways : Nat → Int64) (P0 : Int32 → (Nat → Int32) → Prop) : ∀ (n : Nat) (x1 : Int32) (there : Int32) (near : Nat → Int32), q_X0_findNeighbours_L7 land P0 n x1 there near → (∀ (z0 : Int32) (z1 : Nat → Int32), P0 z0 z1 → xw X 0 0 67 [] [] (wX0 cI cJ cZ cA V land z0 z1 worn trial fits ways)) → xw X 0 0 7 [(0, .ref (V 0)), (1, .int x1)] [] (wX0 cI cJ cZ cA V land there near worn trial fits ways) := by
  intro n
  induction n with
  | zero =>
    intro x1 there near h
    rw [q_X0_findNeighbours_L7] at h
    exact h.elim
  | succ n ih =>
    intro x1 there near h k0
    rw [q_X0_findNeighbours_L7] at h
    refine x_iload_n (pc := 7) K dX0_findNeighbours_7 1 rfl rfl ?_
    refine x_bipush (v := (10)) (pc := 8) K dX0_findNeighbours_8 (by decide) ?_
    refine x_icmp_ge (pc := 10) K dX0_findNeighbours_10 (tgt := 67) (by decide) (fun c9 => ?_) (fun c9 => ?_)
    · have h := h.1 c9
      refine x_keep [false, false] rfl ?_
      exact k0 there near h
    · have h := h.2 c9
      refine x_aload_n (pc := 13) K dX0_findNeighbours_13 0 rfl rfl ?_
      refine x_get (pc := 14) (ci := 0) (C := RX0) (T := TX0) (N := 8) K (inX0_findNeighbours) 0 rfl rfl 0 (by decide) kX0_findNeighbours_1 rfl rfl dX0_findNeighbours_14 ?_
      refine x_iload_n (pc := 17) K dX0_findNeighbours_17 1 rfl rfl ?_
      have g9 := h.1
      replace h := h.2
      refine x_lald (pc := 18) K 1 1 rfl rfl g9 dX0_findNeighbours_18 ?_
      clear g9
      refine x_lconst (v := (0)) (pc := 19) K dX0_findNeighbours_19 (by decide) ?_
      refine x_lcmp (pc := 20) K dX0_findNeighbours_20 ?_
      obtain ⟨J1, hJ1, h⟩ := xj1_o h
      have kJ1 : ∀ (v2 : Int32), J1 v2 → xw X 0 0 36 [(0, .ref (V 0)), (1, .int x1)] [] (wX0 cI cJ cZ cA V land v2 near worn trial fits ways) := by
        intro v2 hj
        have h := hJ1 v2 hj
        refine x_aload_n (pc := 36) K dX0_findNeighbours_36 0 rfl rfl ?_
        refine x_get (pc := 37) (ci := 0) (C := RX0) (T := TX0) (N := 8) K (inX0_findNeighbours) 0 rfl rfl 2 (by decide) kX0_findNeighbours_2 rfl rfl dX0_findNeighbours_37 ?_
        refine x_iload_n (pc := 40) K dX0_findNeighbours_40 1 rfl rfl ?_
        refine x_aload_n (pc := 41) K dX0_findNeighbours_41 0 rfl rfl ?_
        refine x_aload_n (pc := 42) K dX0_findNeighbours_42 0 rfl rfl ?_
        refine x_get (pc := 43) (ci := 0) (C := RX0) (T := TX0) (N := 8) K (inX0_findNeighbours) 0 rfl rfl 0 (by decide) kX0_findNeighbours_1 rfl rfl dX0_findNeighbours_43 ?_
        refine x_iload_n (pc := 46) K dX0_findNeighbours_46 1 rfl rfl ?_
        have g9 := h.1
        replace h := h.2
        refine x_lald (pc := 47) K 1 1 rfl rfl g9 dX0_findNeighbours_47 ?_
        clear g9
        refine x_pcallSl (pc := 48) (n := 1) K (c_X0_spread l D cI cJ cZ cA (land x1.toNatClampNeg) _ h) rfl rfl gX0_findNeighbours_X0_spread rfl (by decide +kernel) ⟨Nat.le_of_ble_eq_true rfl, Nat.le_of_ble_eq_true rfl⟩ rfl (av := [.long (land x1.toNatClampNeg)]) rfl (Nat.le_of_ble_eq_true rfl) dX0_findNeighbours_48 ⟨Nat.le_of_ble_eq_true rfl, Nat.le_of_ble_eq_true rfl⟩ (fun r3 u9 h => ?_)
        refine x_callVi (pc := 51) (n := 1) K (c_X0_thoseIn l D cI cJ cZ cA V r3 land v2 near worn trial fits ways _ h) rfl rfl gX0_findNeighbours_X0_thoseIn rfl (by decide +kernel) ⟨Nat.le_of_ble_eq_true rfl, Nat.le_of_ble_eq_true rfl⟩ rfl (av := [.long r3]) (b := V 0) (ci := 0) (q0 := 0) rfl rfl rfl (Nat.le_of_ble_eq_true rfl) [0, 1, 2, 3, 4, 5, 6] [] (wr := []) rfl rfl rfl rfl (by decide) dX0_findNeighbours_51 ⟨Nat.le_of_ble_eq_true rfl, Nat.le_of_ble_eq_true rfl⟩ (fun r4 u9 h => ?_)
        refine x_ws (ws' := (wX0 cI cJ cZ cA V land v2 near worn trial fits ways)) rfl ?_
        refine x_iconst (v := (1)) (pc := 54) K dX0_findNeighbours_54 (by decide) ?_
        refine x_iload_n (pc := 55) K dX0_findNeighbours_55 1 rfl rfl ?_
        refine x_ishl (pc := 56) K dX0_findNeighbours_56 ?_
        refine x_iconst (v := (-1)) (pc := 57) K dX0_findNeighbours_57 (by decide) ?_
        refine x_ixor (pc := 58) K dX0_findNeighbours_58 ?_
        refine x_iand (pc := 59) K dX0_findNeighbours_59 ?_
        have g9 := h.1
        replace h := h.2
        refine x_iast (ws' := (wX0 cI cJ cZ cA V land v2 (upd near x1.toNatClampNeg (r4 &&& (((1 : Int32) <<< (x1 &&& 31)) ^^^ (-1 : Int32)))) worn trial fits ways)) (pc := 60) K 2 0 rfl rfl rfl g9 dX0_findNeighbours_60 ?_
        clear g9
        refine x_iinc (v := x1 + (1 : Int32)) (lv' := [(0, .ref (V 0)), (1, .int (x1 + (1 : Int32)))]) (pc := 61) K dX0_findNeighbours_61 (k := 1) rfl rfl (by decide) rfl ?_
        refine x_goto (pc := 64) K dX0_findNeighbours_64 (tgt := 7) (by decide) ?_
        exact ih (x1 + (1 : Int32)) v2 (upd near x1.toNatClampNeg (r4 &&& (((1 : Int32) <<< (x1 &&& 31)) ^^^ (-1 : Int32)))) h k0
      refine x_if_eq (pc := 21) K dX0_findNeighbours_21 (tgt := 36) (by decide) (fun c9 => ?_) (fun c9 => ?_)
      · have h := h.1 c9
        exact kJ1 there h
      · have h := h.2 c9
        refine x_aload_n (pc := 24) K dX0_findNeighbours_24 0 rfl rfl ?_
        refine x_dup (pc := 25) K dX0_findNeighbours_25 rfl ?_
        refine x_get (pc := 26) (ci := 0) (C := RX0) (T := TX0) (N := 8) K (inX0_findNeighbours) 0 rfl rfl 1 (by decide) kX0_findNeighbours_0 rfl rfl dX0_findNeighbours_26 ?_
        refine x_iconst (v := (1)) (pc := 29) K dX0_findNeighbours_29 (by decide) ?_
        refine x_iload_n (pc := 30) K dX0_findNeighbours_30 1 rfl rfl ?_
        refine x_ishl (pc := 31) K dX0_findNeighbours_31 ?_
        refine x_ior (pc := 32) K dX0_findNeighbours_32 ?_
        refine x_put (ws' := (wX0 cI cJ cZ cA V land (there ||| ((1 : Int32) <<< (x1 &&& 31))) near worn trial fits ways)) (pc := 33) (ci := 0) (C := RX0) (T := TX0) (N := 8) (ty := .int) K (inX0_findNeighbours) tyX0 tyX0_ok nmX0 0 rfl rfl 1 (by decide) kX0_findNeighbours_0 rfl rfl rfl rfl rfl (Nat.le_of_ble_eq_true rfl) rfl dX0_findNeighbours_33 ?_
        exact kJ1 (there ||| ((1 : Int32) <<< (x1 &&& 31))) h
set_option maxHeartbeats 4000000 in
set_option maxRecDepth 100000 in
theorem c_X0_findNeighbours (l : Launch) (D : va_G) (cI cJ cZ cA : ClassId) (V : Nat → Nat) (land : Nat → Int64) (there : Int32) (near : Nat → Int32) (worn : Nat → Int32) (trial : Nat → Int32) (fits : Nat → Int32) (ways : Nat → Int64) (P : Int32 → (Nat → Int32) → Prop) (h : q_X0_findNeighbours land near P) : xMv l yX0_findNeighbours wsX0_findNeighbours rm_X0_findNeighbours D vwCl (xtys cI cJ cZ cA) (wX0 cI cJ cZ cA V land there near worn trial fits ways) [.ref (V 0)] (σ := Int32 × (Nat → Int32)) (fun u => (wX0 cI cJ cZ cA V land u.1 u.2 worn trial fits ways)) (fun u => P u.1 u.2) := by
  refine xMv_of (cc := cX0_findNeighbours) (maxL := 2) (by decide) rfl (Nat.le_of_ble_eq_true rfl) ?_
  intro X K hE
  have K : xk X l rm_X0_findNeighbours D vwCl (xtys cI cJ cZ cA) cX0_findNeighbours RX0 wsX0_findNeighbours 2 := K
  unfold q_X0_findNeighbours at h
  refine x_aload_n (pc := 0) K dX0_findNeighbours_0 0 rfl rfl ?_
  refine x_iconst (v := (0)) (pc := 1) K dX0_findNeighbours_1 (by decide) ?_
  refine x_put (ws' := (wX0 cI cJ cZ cA V land (0 : Int32) near worn trial fits ways)) (pc := 2) (ci := 0) (C := RX0) (T := TX0) (N := 8) (ty := .int) K (inX0_findNeighbours) tyX0 tyX0_ok nmX0 0 rfl rfl 1 (by decide) kX0_findNeighbours_0 rfl rfl rfl rfl rfl (Nat.le_of_ble_eq_true rfl) rfl dX0_findNeighbours_2 ?_
  refine x_iconst (v := (0)) (pc := 5) K dX0_findNeighbours_5 (by decide) ?_
  refine x_istore_n (lv' := [(0, .ref (V 0)), (1, .int (0 : Int32))]) (pc := 6) K dX0_findNeighbours_6 rfl (by decide) rfl ?_
  obtain ⟨n6, h⟩ := h
  refine w_X0_findNeighbours_L7 K land worn trial fits ways _ n6 (0 : Int32) (0 : Int32) near h (fun v7 v8 h => ?_)
  exact hE (v7, v8) _ _ h dX0_findNeighbours_67
abbrev rm_X0_cover : Room := { frames := 11, cells := 0, slots := 0, locals := 240 }
theorem inX0_cover : ∀ w ∈ u_ws RX0 TX0 8, w ∈ wsX0_cover := by decide +kernel
theorem kX0_cover_0 : Cond.fieldLink RX0 9 "FourTints" "land" "[J" ∈ wsX0_cover := by decide +kernel
theorem kX0_cover_1 : Cond.constantLong RX0 70 (-1) ∈ wsX0_cover := by decide +kernel
def q_X0_cover_L3 (u1 : Int64) (P0 : (Nat → Int64) → Prop) : Nat → Int32 → (Nat → Int64) → Prop
  | 0, _, _ => False
  | n + 1, x4, land => (((10 : Int32) ≤ x4 → P0 land) ∧ (¬ (10 : Int32) ≤ x4 → xin x4 10 = true ∧ xin x4 10 = true ∧ q_X0_cover_L3 u1 P0 n (x4 + (1 : Int32)) (vp_updL land x4.toNatClampNeg ((land x4.toNatClampNeg) &&& (u1 ^^^ (-1 : Int64))))))
def q_X0_cover (p1 : Int64) (p3 : Int32) (land : Nat → Int64) (near : Nat → Int32) (P : (Nat → Int64) → Int32 → (Nat → Int32) → Prop) : Prop := (∃ n2 : Nat, q_X0_cover_L3 p1 (fun (v3 : Nat → Int64) => ((p3 < (0 : Int32) → q_X0_findNeighbours v3 near (fun (there_4 : Int32) (near_5 : Nat → Int32) => P v3 there_4 near_5)) ∧ (¬ p3 < (0 : Int32) → (((10 : Int32) ≤ p3 → q_X0_findNeighbours v3 near (fun (there_6 : Int32) (near_7 : Nat → Int32) => P v3 there_6 near_7)) ∧ (¬ (10 : Int32) ≤ p3 → xin p3 10 = true ∧ xin p3 10 = true ∧ q_X0_findNeighbours (vp_updL v3 p3.toNatClampNeg ((v3 p3.toNatClampNeg) ||| p1)) near (fun (there_9 : Int32) (near_10 : Nat → Int32) => P (vp_updL v3 p3.toNatClampNeg ((v3 p3.toNatClampNeg) ||| p1)) there_9 near_10)))))) n2 (0 : Int32) land)
set_option maxHeartbeats 4000000 in
set_option maxRecDepth 100000 in
theorem w_X0_cover_L3 {X : xC} {l : Launch} {D : va_G} {cI cJ cZ cA : ClassId} {V : Nat → Nat} (K : xk X l rm_X0_cover D vwCl (xtys cI cJ cZ cA) cX0_cover RX0 wsX0_cover 5) (u1 : Int64) (u3 : Int32) (there : Int32) (near : Nat → Int32) (worn : Nat → Int32) (trial : Nat → Int32) (fits : Nat → Int32) (ways : Nat → Int64) (P0 : (Nat → Int64) → Prop) : ∀ (n : Nat) (x4 : Int32) (land : Nat → Int64), q_X0_cover_L3 u1 P0 n x4 land → (∀ (z0 : Nat → Int64), P0 z0 → xw X 0 0 31 [(0, .ref (V 0)), (1, .long u1), (3, .int u3)] [] (wX0 cI cJ cZ cA V z0 there near worn trial fits ways)) → xw X 0 0 3 [(0, .ref (V 0)), (1, .long u1), (3, .int u3), (4, .int x4)] [] (wX0 cI cJ cZ cA V land there near worn trial fits ways) := by
  intro n
  induction n with
  | zero =>
    intro x4 land h
    rw [q_X0_cover_L3] at h
    exact h.elim
  | succ n ih =>
    intro x4 land h k0
    rw [q_X0_cover_L3] at h
    refine x_iload (pc := 3) K dX0_cover_3 3 rfl ?_
    refine x_bipush (v := (10)) (pc := 5) K dX0_cover_5 (by decide) ?_
    refine x_icmp_ge (pc := 7) K dX0_cover_7 (tgt := 31) (by decide) (fun c9 => ?_) (fun c9 => ?_)
    · have h := h.1 c9
      refine x_keep [true, true, true, false] rfl ?_
      exact k0 land h
    · have h := h.2 c9
      refine x_aload_n (pc := 10) K dX0_cover_10 0 rfl rfl ?_
      refine x_get (pc := 11) (ci := 0) (C := RX0) (T := TX0) (N := 8) K (inX0_cover) 0 rfl rfl 0 (by decide) kX0_cover_0 rfl rfl dX0_cover_11 ?_
      refine x_iload (pc := 14) K dX0_cover_14 3 rfl ?_
      refine x_dup2 (pc := 16) K dX0_cover_16 rfl rfl ?_
      have g9 := h.1
      replace h := h.2
      refine x_lald (pc := 17) K 1 1 rfl rfl g9 dX0_cover_17 ?_
      clear g9
      refine x_lload_n (pc := 18) K dX0_cover_18 1 rfl rfl ?_
      refine x_ldc2 (pc := 19) (v := (-1)) K kX0_cover_1 dX0_cover_19 ?_
      refine x_lxor (pc := 22) K dX0_cover_22 ?_
      refine x_land (pc := 23) K dX0_cover_23 ?_
      have g9 := h.1
      replace h := h.2
      refine x_last (ws' := (wX0 cI cJ cZ cA V (vp_updL land x4.toNatClampNeg ((land x4.toNatClampNeg) &&& (u1 ^^^ (-1 : Int64)))) there near worn trial fits ways)) (pc := 24) K 1 1 rfl rfl rfl g9 dX0_cover_24 ?_
      clear g9
      refine x_iinc (v := x4 + (1 : Int32)) (lv' := [(0, .ref (V 0)), (1, .long u1), (3, .int u3), (4, .int (x4 + (1 : Int32)))]) (pc := 25) K dX0_cover_25 (k := 3) rfl rfl (by decide) rfl ?_
      refine x_goto (pc := 28) K dX0_cover_28 (tgt := 3) (by decide) ?_
      exact ih (x4 + (1 : Int32)) (vp_updL land x4.toNatClampNeg ((land x4.toNatClampNeg) &&& (u1 ^^^ (-1 : Int64)))) h k0
set_option maxHeartbeats 4000000 in
set_option maxRecDepth 100000 in
theorem c_X0_cover (l : Launch) (D : va_G) (cI cJ cZ cA : ClassId) (V : Nat → Nat) (p1 : Int64) (p3 : Int32) (land : Nat → Int64) (there : Int32) (near : Nat → Int32) (worn : Nat → Int32) (trial : Nat → Int32) (fits : Nat → Int32) (ways : Nat → Int64) (P : (Nat → Int64) → Int32 → (Nat → Int32) → Prop) (h : q_X0_cover p1 p3 land near P) : xMv l yX0_cover wsX0_cover rm_X0_cover D vwCl (xtys cI cJ cZ cA) (wX0 cI cJ cZ cA V land there near worn trial fits ways) [.ref (V 0), .long p1, .int p3] (σ := (Nat → Int64) × Int32 × (Nat → Int32)) (fun u => (wX0 cI cJ cZ cA V u.1 u.2.1 u.2.2 worn trial fits ways)) (fun u => P u.1 u.2.1 u.2.2) := by
  refine xMv_of (cc := cX0_cover) (maxL := 5) (by decide) rfl (Nat.le_of_ble_eq_true rfl) ?_
  intro X K hE
  have K : xk X l rm_X0_cover D vwCl (xtys cI cJ cZ cA) cX0_cover RX0 wsX0_cover 5 := K
  unfold q_X0_cover at h
  refine x_iconst (v := (0)) (pc := 0) K dX0_cover_0 (by decide) ?_
  refine x_istore (lv' := [(0, .ref (V 0)), (1, .long p1), (3, .int p3), (4, .int (0 : Int32))]) (pc := 1) K dX0_cover_1 (by decide) rfl ?_
  obtain ⟨n2, h⟩ := h
  refine w_X0_cover_L3 K p1 p3 there near worn trial fits ways _ n2 (0 : Int32) land h (fun v3 h => ?_)
  refine x_iload_n (pc := 31) K dX0_cover_31 2 rfl rfl ?_
  refine x_if_lt (pc := 32) K dX0_cover_32 (tgt := 51) (by decide) (fun c9 => ?_) (fun c9 => ?_)
  · have h := h.1 c9
    refine x_keep [true, false, false] rfl ?_
    refine x_aload_n (pc := 51) K dX0_cover_51 0 rfl rfl ?_
    refine x_callVv (pc := 52) (n := 0) K (c_X0_findNeighbours l D cI cJ cZ cA V v3 there near worn trial fits ways _ h) rfl rfl gX0_cover_X0_findNeighbours rfl (by decide +kernel) ⟨Nat.le_of_ble_eq_true rfl, Nat.le_of_ble_eq_true rfl⟩ rfl (av := []) (b := V 0) (ci := 0) (q0 := 0) rfl rfl rfl (Nat.le_of_ble_eq_true rfl) [0, 1, 2, 3, 4, 5, 6] [] (wr := []) rfl rfl rfl rfl (by decide) dX0_cover_52 ⟨Nat.le_of_ble_eq_true rfl, Nat.le_of_ble_eq_true rfl⟩ (fun u9 h => ?_)
    obtain ⟨there_4, near_5⟩ := u9
    refine x_ws (ws' := (wX0 cI cJ cZ cA V v3 there_4 near_5 worn trial fits ways)) rfl ?_
    exact hE (v3, there_4, near_5) _ _ h dX0_cover_55
  · have h := h.2 c9
    refine x_iload_n (pc := 35) K dX0_cover_35 2 rfl rfl ?_
    refine x_bipush (v := (10)) (pc := 36) K dX0_cover_36 (by decide) ?_
    refine x_icmp_ge (pc := 38) K dX0_cover_38 (tgt := 51) (by decide) (fun c9 => ?_) (fun c9 => ?_)
    · have h := h.1 c9
      refine x_keep [true, false, false] rfl ?_
      refine x_aload_n (pc := 51) K dX0_cover_51 0 rfl rfl ?_
      refine x_callVv (pc := 52) (n := 0) K (c_X0_findNeighbours l D cI cJ cZ cA V v3 there near worn trial fits ways _ h) rfl rfl gX0_cover_X0_findNeighbours rfl (by decide +kernel) ⟨Nat.le_of_ble_eq_true rfl, Nat.le_of_ble_eq_true rfl⟩ rfl (av := []) (b := V 0) (ci := 0) (q0 := 0) rfl rfl rfl (Nat.le_of_ble_eq_true rfl) [0, 1, 2, 3, 4, 5, 6] [] (wr := []) rfl rfl rfl rfl (by decide) dX0_cover_52 ⟨Nat.le_of_ble_eq_true rfl, Nat.le_of_ble_eq_true rfl⟩ (fun u9 h => ?_)
      obtain ⟨there_6, near_7⟩ := u9
      refine x_ws (ws' := (wX0 cI cJ cZ cA V v3 there_6 near_7 worn trial fits ways)) rfl ?_
      exact hE (v3, there_6, near_7) _ _ h dX0_cover_55
    · have h := h.2 c9
      refine x_aload_n (pc := 41) K dX0_cover_41 0 rfl rfl ?_
      refine x_get (pc := 42) (ci := 0) (C := RX0) (T := TX0) (N := 8) K (inX0_cover) 0 rfl rfl 0 (by decide) kX0_cover_0 rfl rfl dX0_cover_42 ?_
      refine x_iload_n (pc := 45) K dX0_cover_45 2 rfl rfl ?_
      refine x_dup2 (pc := 46) K dX0_cover_46 rfl rfl ?_
      have g9 := h.1
      replace h := h.2
      refine x_lald (pc := 47) K 1 1 rfl rfl g9 dX0_cover_47 ?_
      clear g9
      refine x_lload_n (pc := 48) K dX0_cover_48 1 rfl rfl ?_
      refine x_lor (pc := 49) K dX0_cover_49 ?_
      have g9 := h.1
      replace h := h.2
      refine x_last (ws' := (wX0 cI cJ cZ cA V (vp_updL v3 p3.toNatClampNeg ((v3 p3.toNatClampNeg) ||| p1)) there near worn trial fits ways)) (pc := 50) K 1 1 rfl rfl rfl g9 dX0_cover_50 ?_
      clear g9
      refine x_keep [true, false, false] rfl ?_
      refine x_aload_n (pc := 51) K dX0_cover_51 0 rfl rfl ?_
      refine x_callVv (pc := 52) (n := 0) K (c_X0_findNeighbours l D cI cJ cZ cA V (vp_updL v3 p3.toNatClampNeg ((v3 p3.toNatClampNeg) ||| p1)) there near worn trial fits ways _ h) rfl rfl gX0_cover_X0_findNeighbours rfl (by decide +kernel) ⟨Nat.le_of_ble_eq_true rfl, Nat.le_of_ble_eq_true rfl⟩ rfl (av := []) (b := V 0) (ci := 0) (q0 := 0) rfl rfl rfl (Nat.le_of_ble_eq_true rfl) [0, 1, 2, 3, 4, 5, 6] [] (wr := []) rfl rfl rfl rfl (by decide) dX0_cover_52 ⟨Nat.le_of_ble_eq_true rfl, Nat.le_of_ble_eq_true rfl⟩ (fun u9 h => ?_)
      obtain ⟨there_9, near_10⟩ := u9
      refine x_ws (ws' := (wX0 cI cJ cZ cA V (vp_updL v3 p3.toNatClampNeg ((v3 p3.toNatClampNeg) ||| p1)) there_9 near_10 worn trial fits ways)) rfl ?_
      exact hE ((vp_updL v3 p3.toNatClampNeg ((v3 p3.toNatClampNeg) ||| p1)), there_9, near_10) _ _ h dX0_cover_55
abbrev rm_X0_withNeighbours : Room := { frames := 9, cells := 0, slots := 0, locals := 160 }
theorem inX0_withNeighbours : ∀ w ∈ u_ws RX0 TX0 8, w ∈ wsX0_withNeighbours := by decide +kernel
theorem kX0_withNeighbours_0 : Cond.fieldLink RX0 13 "FourTints" "there" "I" ∈ wsX0_withNeighbours := by decide +kernel
theorem kX0_withNeighbours_1 : Cond.fieldLink RX0 17 "FourTints" "near" "[I" ∈ wsX0_withNeighbours := by decide +kernel
def q_X0_withNeighbours_L4 (u1 : Int32) (there : Int32) (near : Nat → Int32) (P0 : Int32 → Prop) : Nat → Int32 → Int32 → Prop
  | 0, _, _ => False
  | n + 1, x2, x3 => (((10 : Int32) ≤ x3 → P0 x2) ∧ (¬ (10 : Int32) ≤ x3 → q_X0_has there x3 (fun (r1 : Int32) => ((r1 = (0 : Int32) → q_X0_withNeighbours_L4 u1 there near P0 n x2 (x3 + (1 : Int32))) ∧ (¬ r1 = (0 : Int32) → xin x3 10 = true ∧ q_J6_bitCount_0f7a4 (near x3.toNatClampNeg) (fun (r2 : Int32) => ((¬ r2 = u1 → q_X0_withNeighbours_L4 u1 there near P0 n x2 (x3 + (1 : Int32))) ∧ (r2 = u1 → xl (x2 ||| ((1 : Int32) <<< (x3 &&& 31))) (fun y3 => q_X0_withNeighbours_L4 u1 there near P0 n y3 (x3 + (1 : Int32)))))))))))
def q_X0_withNeighbours (p1 : Int32) (there : Int32) (near : Nat → Int32) (P : Int32 → Prop) : Prop := (∃ n4 : Nat, q_X0_withNeighbours_L4 p1 there near (fun (v5 : Int32) => P v5) n4 (0 : Int32) (0 : Int32))
set_option maxHeartbeats 4000000 in
set_option maxRecDepth 100000 in
theorem w_X0_withNeighbours_L4 {X : xC} {l : Launch} {D : va_G} {cI cJ cZ cA : ClassId} {V : Nat → Nat} (K : xk X l rm_X0_withNeighbours D vwCl (xtys cI cJ cZ cA) cX0_withNeighbours RX0 wsX0_withNeighbours 4) (u1 : Int32) (land : Nat → Int64) (there : Int32) (near : Nat → Int32) (worn : Nat → Int32) (trial : Nat → Int32) (fits : Nat → Int32) (ways : Nat → Int64) (P0 : Int32 → Prop) : ∀ (n : Nat) (x2 : Int32) (x3 : Int32), q_X0_withNeighbours_L4 u1 there near P0 n x2 x3 → (∀ (z0 : Int32), P0 z0 → xw X 0 0 46 [(2, .int z0)] [] (wX0 cI cJ cZ cA V land there near worn trial fits ways)) → xw X 0 0 4 [(0, .ref (V 0)), (1, .int u1), (2, .int x2), (3, .int x3)] [] (wX0 cI cJ cZ cA V land there near worn trial fits ways) := by
  intro n
  induction n with
  | zero =>
    intro x2 x3 h
    rw [q_X0_withNeighbours_L4] at h
    exact h.elim
  | succ n ih =>
    intro x2 x3 h k0
    rw [q_X0_withNeighbours_L4] at h
    refine x_iload_n (pc := 4) K dX0_withNeighbours_4 3 rfl rfl ?_
    refine x_bipush (v := (10)) (pc := 5) K dX0_withNeighbours_5 (by decide) ?_
    refine x_icmp_ge (pc := 7) K dX0_withNeighbours_7 (tgt := 46) (by decide) (fun c9 => ?_) (fun c9 => ?_)
    · have h := h.1 c9
      refine x_keep [false, false, true, false] rfl ?_
      exact k0 x2 h
    · have h := h.2 c9
      refine x_aload_n (pc := 10) K dX0_withNeighbours_10 0 rfl rfl ?_
      refine x_get (pc := 11) (ci := 0) (C := RX0) (T := TX0) (N := 8) K (inX0_withNeighbours) 0 rfl rfl 1 (by decide) kX0_withNeighbours_0 rfl rfl dX0_withNeighbours_11 ?_
      refine x_iload_n (pc := 14) K dX0_withNeighbours_14 3 rfl rfl ?_
      refine x_pcallSz (pc := 15) (n := 2) K (c_X0_has l D cI cJ cZ cA there x3 _ h) rfl rfl gX0_withNeighbours_X0_has rfl (by decide +kernel) ⟨Nat.le_of_ble_eq_true rfl, Nat.le_of_ble_eq_true rfl⟩ rfl (av := [.int there, .int x3]) rfl (Nat.le_of_ble_eq_true rfl) dX0_withNeighbours_15 ⟨Nat.le_of_ble_eq_true rfl, Nat.le_of_ble_eq_true rfl⟩ (fun r1 u9 h => ?_)
      refine x_if_eq (pc := 18) K dX0_withNeighbours_18 (tgt := 40) (by decide) (fun c9 => ?_) (fun c9 => ?_)
      · have h := h.1 c9
        refine x_iinc (v := x3 + (1 : Int32)) (lv' := [(0, .ref (V 0)), (1, .int u1), (2, .int x2), (3, .int (x3 + (1 : Int32)))]) (pc := 40) K dX0_withNeighbours_40 (k := 3) rfl rfl (by decide) rfl ?_
        refine x_goto (pc := 43) K dX0_withNeighbours_43 (tgt := 4) (by decide) ?_
        exact ih x2 (x3 + (1 : Int32)) h k0
      · have h := h.2 c9
        refine x_aload_n (pc := 21) K dX0_withNeighbours_21 0 rfl rfl ?_
        refine x_get (pc := 22) (ci := 0) (C := RX0) (T := TX0) (N := 8) K (inX0_withNeighbours) 0 rfl rfl 2 (by decide) kX0_withNeighbours_1 rfl rfl dX0_withNeighbours_22 ?_
        refine x_iload_n (pc := 25) K dX0_withNeighbours_25 3 rfl rfl ?_
        have g9 := h.1
        replace h := h.2
        refine x_iald (pc := 26) K 2 0 rfl rfl g9 dX0_withNeighbours_26 ?_
        clear g9
        refine x_pcallSi (pc := 27) (n := 1) K (c_J6_bitCount_0f7a4 l D cI cJ cZ cA (near x3.toNatClampNeg) _ h) rfl rfl gX0_withNeighbours_J6_bitCount_0f7a4 rfl (by decide +kernel) ⟨Nat.le_of_ble_eq_true rfl, Nat.le_of_ble_eq_true rfl⟩ rfl (av := [.int (near x3.toNatClampNeg)]) rfl (Nat.le_of_ble_eq_true rfl) dX0_withNeighbours_27 ⟨Nat.le_of_ble_eq_true rfl, Nat.le_of_ble_eq_true rfl⟩ (fun r2 u9 h => ?_)
        refine x_iload_n (pc := 30) K dX0_withNeighbours_30 1 rfl rfl ?_
        refine x_icmp_ne (pc := 31) K dX0_withNeighbours_31 (tgt := 40) (by decide) (fun c9 => ?_) (fun c9 => ?_)
        · have h := h.1 c9
          refine x_iinc (v := x3 + (1 : Int32)) (lv' := [(0, .ref (V 0)), (1, .int u1), (2, .int x2), (3, .int (x3 + (1 : Int32)))]) (pc := 40) K dX0_withNeighbours_40 (k := 3) rfl rfl (by decide) rfl ?_
          refine x_goto (pc := 43) K dX0_withNeighbours_43 (tgt := 4) (by decide) ?_
          exact ih x2 (x3 + (1 : Int32)) h k0
        · have h := h.2 c9
          refine x_iload_n (pc := 34) K dX0_withNeighbours_34 2 rfl rfl ?_
          refine x_iconst (v := (1)) (pc := 35) K dX0_withNeighbours_35 (by decide) ?_
          refine x_iload_n (pc := 36) K dX0_withNeighbours_36 3 rfl rfl ?_
          refine x_ishl (pc := 37) K dX0_withNeighbours_37 ?_
          refine x_ior (pc := 38) K dX0_withNeighbours_38 ?_
          obtain ⟨y3, ey3, h⟩ := xl_o h
          refine x_topi ey3 ?_
          clear ey3
          refine x_istore_n (lv' := [(0, .ref (V 0)), (1, .int u1), (2, .int y3), (3, .int x3)]) (pc := 39) K dX0_withNeighbours_39 rfl (by decide) rfl ?_
          refine x_iinc (v := x3 + (1 : Int32)) (lv' := [(0, .ref (V 0)), (1, .int u1), (2, .int y3), (3, .int (x3 + (1 : Int32)))]) (pc := 40) K dX0_withNeighbours_40 (k := 3) rfl rfl (by decide) rfl ?_
          refine x_goto (pc := 43) K dX0_withNeighbours_43 (tgt := 4) (by decide) ?_
          exact ih y3 (x3 + (1 : Int32)) h k0
set_option maxHeartbeats 4000000 in
set_option maxRecDepth 100000 in
theorem c_X0_withNeighbours (l : Launch) (D : va_G) (cI cJ cZ cA : ClassId) (V : Nat → Nat) (p1 : Int32) (land : Nat → Int64) (there : Int32) (near : Nat → Int32) (worn : Nat → Int32) (trial : Nat → Int32) (fits : Nat → Int32) (ways : Nat → Int64) (P : Int32 → Prop) (h : q_X0_withNeighbours p1 there near P) : xMi l yX0_withNeighbours wsX0_withNeighbours rm_X0_withNeighbours D vwCl (xtys cI cJ cZ cA) (wX0 cI cJ cZ cA V land there near worn trial fits ways) [.ref (V 0), .int p1] (σ := Unit) (fun _ => (wX0 cI cJ cZ cA V land there near worn trial fits ways)) (fun r _ => P r) := by
  refine xMi_of (cc := cX0_withNeighbours) (maxL := 4) (by decide) rfl (Nat.le_of_ble_eq_true rfl) ?_
  intro X K hE
  have K : xk X l rm_X0_withNeighbours D vwCl (xtys cI cJ cZ cA) cX0_withNeighbours RX0 wsX0_withNeighbours 4 := K
  unfold q_X0_withNeighbours at h
  refine x_iconst (v := (0)) (pc := 0) K dX0_withNeighbours_0 (by decide) ?_
  refine x_istore_n (lv' := [(0, .ref (V 0)), (1, .int p1), (2, .int (0 : Int32))]) (pc := 1) K dX0_withNeighbours_1 rfl (by decide) rfl ?_
  refine x_iconst (v := (0)) (pc := 2) K dX0_withNeighbours_2 (by decide) ?_
  refine x_istore_n (lv' := [(0, .ref (V 0)), (1, .int p1), (2, .int (0 : Int32)), (3, .int (0 : Int32))]) (pc := 3) K dX0_withNeighbours_3 rfl (by decide) rfl ?_
  obtain ⟨n4, h⟩ := h
  refine w_X0_withNeighbours_L4 K p1 land there near worn trial fits ways _ n4 (0 : Int32) (0 : Int32) h (fun v5 h => ?_)
  refine x_iload_n (pc := 46) K dX0_withNeighbours_46 0 rfl rfl ?_
  exact hE v5 () _ _ h dX0_withNeighbours_47
abbrev rm_X0_leastFreeBeside : Room := { frames := 9, cells := 0, slots := 0, locals := 160 }
def q_X0_leastFreeBeside_L2 (u1 : Int32) (worn : Nat → Int32) (P0 : Prop) (P1 : Int32 → Prop) : Nat → Int32 → Prop
  | 0, _ => False
  | n + 1, x2 => (((10 : Int32) ≤ x2 → P0) ∧ (¬ (10 : Int32) ≤ x2 → q_X0_wearing x2 worn (fun (r1 : Int32) => ((¬ (r1 &&& u1) = (0 : Int32) → q_X0_leastFreeBeside_L2 u1 worn P0 P1 n (x2 + (1 : Int32))) ∧ ((r1 &&& u1) = (0 : Int32) → P1 x2)))))
def q_X0_leastFreeBeside (p1 : Int32) (worn : Nat → Int32) (P : Int32 → Prop) : Prop := (∃ n2 : Nat, q_X0_leastFreeBeside_L2 p1 worn (P (10 : Int32)) (fun (v3 : Int32) => P v3) n2 (1 : Int32))
set_option maxHeartbeats 4000000 in
set_option maxRecDepth 100000 in
theorem w_X0_leastFreeBeside_L2 {X : xC} {l : Launch} {D : va_G} {cI cJ cZ cA : ClassId} {V : Nat → Nat} (K : xk X l rm_X0_leastFreeBeside D vwCl (xtys cI cJ cZ cA) cX0_leastFreeBeside RX0 wsX0_leastFreeBeside 3) (u1 : Int32) (land : Nat → Int64) (there : Int32) (near : Nat → Int32) (worn : Nat → Int32) (trial : Nat → Int32) (fits : Nat → Int32) (ways : Nat → Int64) (P0 : Prop) (P1 : Int32 → Prop) : ∀ (n : Nat) (x2 : Int32), q_X0_leastFreeBeside_L2 u1 worn P0 P1 n x2 → (P0 → xw X 0 0 26 [] [] (wX0 cI cJ cZ cA V land there near worn trial fits ways)) → (∀ (z0 : Int32), P1 z0 → xw X 0 0 18 [(2, .int z0)] [] (wX0 cI cJ cZ cA V land there near worn trial fits ways)) → xw X 0 0 2 [(0, .ref (V 0)), (1, .int u1), (2, .int x2)] [] (wX0 cI cJ cZ cA V land there near worn trial fits ways) := by
  intro n
  induction n with
  | zero =>
    intro x2 h
    rw [q_X0_leastFreeBeside_L2] at h
    exact h.elim
  | succ n ih =>
    intro x2 h k0 k1
    rw [q_X0_leastFreeBeside_L2] at h
    refine x_iload_n (pc := 2) K dX0_leastFreeBeside_2 2 rfl rfl ?_
    refine x_bipush (v := (10)) (pc := 3) K dX0_leastFreeBeside_3 (by decide) ?_
    refine x_icmp_ge (pc := 5) K dX0_leastFreeBeside_5 (tgt := 26) (by decide) (fun c9 => ?_) (fun c9 => ?_)
    · have h := h.1 c9
      refine x_keep [false, false, false] rfl ?_
      exact k0  h
    · have h := h.2 c9
      refine x_aload_n (pc := 8) K dX0_leastFreeBeside_8 0 rfl rfl ?_
      refine x_iload_n (pc := 9) K dX0_leastFreeBeside_9 2 rfl rfl ?_
      refine x_callVi (pc := 10) (n := 1) K (c_X0_wearing l D cI cJ cZ cA V x2 land there near worn trial fits ways _ h) rfl rfl gX0_leastFreeBeside_X0_wearing rfl (by decide +kernel) ⟨Nat.le_of_ble_eq_true rfl, Nat.le_of_ble_eq_true rfl⟩ rfl (av := [.int x2]) (b := V 0) (ci := 0) (q0 := 0) rfl rfl rfl (Nat.le_of_ble_eq_true rfl) [0, 1, 2, 3, 4, 5, 6] [] (wr := []) rfl rfl rfl rfl (by decide) dX0_leastFreeBeside_10 ⟨Nat.le_of_ble_eq_true rfl, Nat.le_of_ble_eq_true rfl⟩ (fun r1 u9 h => ?_)
      refine x_ws (ws' := (wX0 cI cJ cZ cA V land there near worn trial fits ways)) rfl ?_
      refine x_iload_n (pc := 13) K dX0_leastFreeBeside_13 1 rfl rfl ?_
      refine x_iand (pc := 14) K dX0_leastFreeBeside_14 ?_
      refine x_if_ne (pc := 15) K dX0_leastFreeBeside_15 (tgt := 20) (by decide) (fun c9 => ?_) (fun c9 => ?_)
      · have h := h.1 c9
        refine x_iinc (v := x2 + (1 : Int32)) (lv' := [(0, .ref (V 0)), (1, .int u1), (2, .int (x2 + (1 : Int32)))]) (pc := 20) K dX0_leastFreeBeside_20 (k := 2) rfl rfl (by decide) rfl ?_
        refine x_goto (pc := 23) K dX0_leastFreeBeside_23 (tgt := 2) (by decide) ?_
        exact ih (x2 + (1 : Int32)) h k0 k1
      · have h := h.2 c9
        refine x_keep [false, false, true] rfl ?_
        exact k1 x2 h
set_option maxHeartbeats 4000000 in
set_option maxRecDepth 100000 in
theorem c_X0_leastFreeBeside (l : Launch) (D : va_G) (cI cJ cZ cA : ClassId) (V : Nat → Nat) (p1 : Int32) (land : Nat → Int64) (there : Int32) (near : Nat → Int32) (worn : Nat → Int32) (trial : Nat → Int32) (fits : Nat → Int32) (ways : Nat → Int64) (P : Int32 → Prop) (h : q_X0_leastFreeBeside p1 worn P) : xMi l yX0_leastFreeBeside wsX0_leastFreeBeside rm_X0_leastFreeBeside D vwCl (xtys cI cJ cZ cA) (wX0 cI cJ cZ cA V land there near worn trial fits ways) [.ref (V 0), .int p1] (σ := Unit) (fun _ => (wX0 cI cJ cZ cA V land there near worn trial fits ways)) (fun r _ => P r) := by
  refine xMi_of (cc := cX0_leastFreeBeside) (maxL := 3) (by decide) rfl (Nat.le_of_ble_eq_true rfl) ?_
  intro X K hE
  have K : xk X l rm_X0_leastFreeBeside D vwCl (xtys cI cJ cZ cA) cX0_leastFreeBeside RX0 wsX0_leastFreeBeside 3 := K
  unfold q_X0_leastFreeBeside at h
  refine x_iconst (v := (1)) (pc := 0) K dX0_leastFreeBeside_0 (by decide) ?_
  refine x_istore_n (lv' := [(0, .ref (V 0)), (1, .int p1), (2, .int (1 : Int32))]) (pc := 1) K dX0_leastFreeBeside_1 rfl (by decide) rfl ?_
  obtain ⟨n2, h⟩ := h
  refine w_X0_leastFreeBeside_L2 K p1 land there near worn trial fits ways _ _ n2 (1 : Int32) h (fun  h => ?_) (fun v3 h => ?_)
  · refine x_bipush (v := (10)) (pc := 26) K dX0_leastFreeBeside_26 (by decide) ?_
    exact hE (10 : Int32) () _ _ h dX0_leastFreeBeside_28
  · refine x_iload_n (pc := 18) K dX0_leastFreeBeside_18 0 rfl rfl ?_
    exact hE v3 () _ _ h dX0_leastFreeBeside_19
abbrev rm_X0_giveLeastFree : Room := { frames := 10, cells := 0, slots := 0, locals := 200 }
theorem inX0_giveLeastFree : ∀ w ∈ u_ws RX0 TX0 8, w ∈ wsX0_giveLeastFree := by decide +kernel
theorem kX0_giveLeastFree_0 : Cond.fieldLink RX0 21 "FourTints" "worn" "[I" ∈ wsX0_giveLeastFree := by decide +kernel
theorem kX0_giveLeastFree_1 : Cond.fieldLink RX0 17 "FourTints" "near" "[I" ∈ wsX0_giveLeastFree := by decide +kernel
theorem kX0_giveLeastFree_2 : Cond.methodLink RX0 92 Lib.Math.max.name ∈ wsX0_giveLeastFree := by decide +kernel
theorem kX0_giveLeastFree_3 : Cond.static Lib.Math.max.name ∈ wsX0_giveLeastFree := by decide +kernel
theorem kX0_giveLeastFree_4 : Cond.initialized "java/lang/Math" ∈ wsX0_giveLeastFree := by decide +kernel
theorem kX0_giveLeastFree_5 : Cond.code Lib.Math.max.name Lib.Math.max.code 2 (some .int) ∈ wsX0_giveLeastFree := by decide +kernel
def q_X0_giveLeastFree_L4 (u1 : Int32) (near : Nat → Int32) (P0 : Int32 → (Nat → Int32) → Prop) : Nat → Int32 → Int32 → (Nat → Int32) → Prop
  | 0, _, _, _ => False
  | n + 1, x2, x3, worn => (((10 : Int32) ≤ x3 → P0 x2 worn) ∧ (¬ (10 : Int32) ≤ x3 → q_X0_has u1 x3 (fun (r1 : Int32) => ((r1 = (0 : Int32) → q_X0_giveLeastFree_L4 u1 near P0 n x2 (x3 + (1 : Int32)) worn) ∧ (¬ r1 = (0 : Int32) → xin x3 10 = true ∧ q_X0_leastFreeBeside (near x3.toNatClampNeg) worn (fun (r2 : Int32) => xin x3 10 = true ∧ xin x3 10 = true ∧ xl (xmax x2 ((upd worn x3.toNatClampNeg r2) x3.toNatClampNeg)) (fun y4 => q_X0_giveLeastFree_L4 u1 near P0 n y4 (x3 + (1 : Int32)) (upd worn x3.toNatClampNeg r2))))))))
def q_X0_giveLeastFree (p1 : Int32) (near : Nat → Int32) (worn : Nat → Int32) (P : Int32 → (Nat → Int32) → Prop) : Prop := (∃ n5 : Nat, q_X0_giveLeastFree_L4 p1 near (fun (v6 : Int32) (v7 : Nat → Int32) => P v6 v7) n5 (0 : Int32) (0 : Int32) worn)
set_option maxHeartbeats 4000000 in
set_option maxRecDepth 100000 in
theorem w_X0_giveLeastFree_L4 {X : xC} {l : Launch} {D : va_G} {cI cJ cZ cA : ClassId} {V : Nat → Nat} (K : xk X l rm_X0_giveLeastFree D vwCl (xtys cI cJ cZ cA) cX0_giveLeastFree RX0 wsX0_giveLeastFree 4) (u1 : Int32) (land : Nat → Int64) (there : Int32) (near : Nat → Int32) (trial : Nat → Int32) (fits : Nat → Int32) (ways : Nat → Int64) (P0 : Int32 → (Nat → Int32) → Prop) : ∀ (n : Nat) (x2 : Int32) (x3 : Int32) (worn : Nat → Int32), q_X0_giveLeastFree_L4 u1 near P0 n x2 x3 worn → (∀ (z0 : Int32) (z1 : Nat → Int32), P0 z0 z1 → xw X 0 0 51 [(2, .int z0)] [] (wX0 cI cJ cZ cA V land there near z1 trial fits ways)) → xw X 0 0 4 [(0, .ref (V 0)), (1, .int u1), (2, .int x2), (3, .int x3)] [] (wX0 cI cJ cZ cA V land there near worn trial fits ways) := by
  intro n
  induction n with
  | zero =>
    intro x2 x3 worn h
    rw [q_X0_giveLeastFree_L4] at h
    exact h.elim
  | succ n ih =>
    intro x2 x3 worn h k0
    rw [q_X0_giveLeastFree_L4] at h
    refine x_iload_n (pc := 4) K dX0_giveLeastFree_4 3 rfl rfl ?_
    refine x_bipush (v := (10)) (pc := 5) K dX0_giveLeastFree_5 (by decide) ?_
    refine x_icmp_ge (pc := 7) K dX0_giveLeastFree_7 (tgt := 51) (by decide) (fun c9 => ?_) (fun c9 => ?_)
    · have h := h.1 c9
      refine x_keep [false, false, true, false] rfl ?_
      exact k0 x2 worn h
    · have h := h.2 c9
      refine x_iload_n (pc := 10) K dX0_giveLeastFree_10 1 rfl rfl ?_
      refine x_iload_n (pc := 11) K dX0_giveLeastFree_11 3 rfl rfl ?_
      refine x_pcallSz (pc := 12) (n := 2) K (c_X0_has l D cI cJ cZ cA u1 x3 _ h) rfl rfl gX0_giveLeastFree_X0_has rfl (by decide +kernel) ⟨Nat.le_of_ble_eq_true rfl, Nat.le_of_ble_eq_true rfl⟩ rfl (av := [.int u1, .int x3]) rfl (Nat.le_of_ble_eq_true rfl) dX0_giveLeastFree_12 ⟨Nat.le_of_ble_eq_true rfl, Nat.le_of_ble_eq_true rfl⟩ (fun r1 u9 h => ?_)
      refine x_if_eq (pc := 15) K dX0_giveLeastFree_15 (tgt := 45) (by decide) (fun c9 => ?_) (fun c9 => ?_)
      · have h := h.1 c9
        refine x_iinc (v := x3 + (1 : Int32)) (lv' := [(0, .ref (V 0)), (1, .int u1), (2, .int x2), (3, .int (x3 + (1 : Int32)))]) (pc := 45) K dX0_giveLeastFree_45 (k := 3) rfl rfl (by decide) rfl ?_
        refine x_goto (pc := 48) K dX0_giveLeastFree_48 (tgt := 4) (by decide) ?_
        exact ih x2 (x3 + (1 : Int32)) worn h k0
      · have h := h.2 c9
        refine x_aload_n (pc := 18) K dX0_giveLeastFree_18 0 rfl rfl ?_
        refine x_get (pc := 19) (ci := 0) (C := RX0) (T := TX0) (N := 8) K (inX0_giveLeastFree) 0 rfl rfl 3 (by decide) kX0_giveLeastFree_0 rfl rfl dX0_giveLeastFree_19 ?_
        refine x_iload_n (pc := 22) K dX0_giveLeastFree_22 3 rfl rfl ?_
        refine x_aload_n (pc := 23) K dX0_giveLeastFree_23 0 rfl rfl ?_
        refine x_aload_n (pc := 24) K dX0_giveLeastFree_24 0 rfl rfl ?_
        refine x_get (pc := 25) (ci := 0) (C := RX0) (T := TX0) (N := 8) K (inX0_giveLeastFree) 0 rfl rfl 2 (by decide) kX0_giveLeastFree_1 rfl rfl dX0_giveLeastFree_25 ?_
        refine x_iload_n (pc := 28) K dX0_giveLeastFree_28 3 rfl rfl ?_
        have g9 := h.1
        replace h := h.2
        refine x_iald (pc := 29) K 2 0 rfl rfl g9 dX0_giveLeastFree_29 ?_
        clear g9
        refine x_callVi (pc := 30) (n := 1) K (c_X0_leastFreeBeside l D cI cJ cZ cA V (near x3.toNatClampNeg) land there near worn trial fits ways _ h) rfl rfl gX0_giveLeastFree_X0_leastFreeBeside rfl (by decide +kernel) ⟨Nat.le_of_ble_eq_true rfl, Nat.le_of_ble_eq_true rfl⟩ rfl (av := [.int (near x3.toNatClampNeg)]) (b := V 0) (ci := 0) (q0 := 0) rfl rfl rfl (Nat.le_of_ble_eq_true rfl) [0, 1, 2, 3, 4, 5, 6] [] (wr := []) rfl rfl rfl rfl (by decide) dX0_giveLeastFree_30 ⟨Nat.le_of_ble_eq_true rfl, Nat.le_of_ble_eq_true rfl⟩ (fun r2 u9 h => ?_)
        refine x_ws (ws' := (wX0 cI cJ cZ cA V land there near worn trial fits ways)) rfl ?_
        have g9 := h.1
        replace h := h.2
        refine x_iast (ws' := (wX0 cI cJ cZ cA V land there near (upd worn x3.toNatClampNeg r2) trial fits ways)) (pc := 33) K 3 0 rfl rfl rfl g9 dX0_giveLeastFree_33 ?_
        clear g9
        refine x_iload_n (pc := 34) K dX0_giveLeastFree_34 2 rfl rfl ?_
        refine x_aload_n (pc := 35) K dX0_giveLeastFree_35 0 rfl rfl ?_
        refine x_get (pc := 36) (ci := 0) (C := RX0) (T := TX0) (N := 8) K (inX0_giveLeastFree) 0 rfl rfl 3 (by decide) kX0_giveLeastFree_0 rfl rfl dX0_giveLeastFree_36 ?_
        refine x_iload_n (pc := 39) K dX0_giveLeastFree_39 3 rfl rfl ?_
        have g9 := h.1
        replace h := h.2
        refine x_iald (pc := 40) K 3 0 rfl rfl g9 dX0_giveLeastFree_40 ?_
        clear g9
        refine x_mmax (pc := 41) K kX0_giveLeastFree_2 kX0_giveLeastFree_3 kX0_giveLeastFree_4 kX0_giveLeastFree_5 ⟨Nat.le_of_ble_eq_true rfl, Nat.le_of_ble_eq_true rfl⟩ ⟨Nat.le_of_ble_eq_true rfl, Nat.le_of_ble_eq_true rfl⟩ dX0_giveLeastFree_41 ?_
        obtain ⟨y4, ey4, h⟩ := xl_o h
        refine x_topi ey4 ?_
        clear ey4
        refine x_istore_n (lv' := [(0, .ref (V 0)), (1, .int u1), (2, .int y4), (3, .int x3)]) (pc := 44) K dX0_giveLeastFree_44 rfl (by decide) rfl ?_
        refine x_iinc (v := x3 + (1 : Int32)) (lv' := [(0, .ref (V 0)), (1, .int u1), (2, .int y4), (3, .int (x3 + (1 : Int32)))]) (pc := 45) K dX0_giveLeastFree_45 (k := 3) rfl rfl (by decide) rfl ?_
        refine x_goto (pc := 48) K dX0_giveLeastFree_48 (tgt := 4) (by decide) ?_
        exact ih y4 (x3 + (1 : Int32)) (upd worn x3.toNatClampNeg r2) h k0
set_option maxHeartbeats 4000000 in
set_option maxRecDepth 100000 in
theorem c_X0_giveLeastFree (l : Launch) (D : va_G) (cI cJ cZ cA : ClassId) (V : Nat → Nat) (p1 : Int32) (land : Nat → Int64) (there : Int32) (near : Nat → Int32) (worn : Nat → Int32) (trial : Nat → Int32) (fits : Nat → Int32) (ways : Nat → Int64) (P : Int32 → (Nat → Int32) → Prop) (h : q_X0_giveLeastFree p1 near worn P) : xMi l yX0_giveLeastFree wsX0_giveLeastFree rm_X0_giveLeastFree D vwCl (xtys cI cJ cZ cA) (wX0 cI cJ cZ cA V land there near worn trial fits ways) [.ref (V 0), .int p1] (σ := (Nat → Int32)) (fun u => (wX0 cI cJ cZ cA V land there near u trial fits ways)) (fun r u => P r u) := by
  refine xMi_of (cc := cX0_giveLeastFree) (maxL := 4) (by decide) rfl (Nat.le_of_ble_eq_true rfl) ?_
  intro X K hE
  have K : xk X l rm_X0_giveLeastFree D vwCl (xtys cI cJ cZ cA) cX0_giveLeastFree RX0 wsX0_giveLeastFree 4 := K
  unfold q_X0_giveLeastFree at h
  refine x_iconst (v := (0)) (pc := 0) K dX0_giveLeastFree_0 (by decide) ?_
  refine x_istore_n (lv' := [(0, .ref (V 0)), (1, .int p1), (2, .int (0 : Int32))]) (pc := 1) K dX0_giveLeastFree_1 rfl (by decide) rfl ?_
  refine x_iconst (v := (0)) (pc := 2) K dX0_giveLeastFree_2 (by decide) ?_
  refine x_istore_n (lv' := [(0, .ref (V 0)), (1, .int p1), (2, .int (0 : Int32)), (3, .int (0 : Int32))]) (pc := 3) K dX0_giveLeastFree_3 rfl (by decide) rfl ?_
  obtain ⟨n5, h⟩ := h
  refine w_X0_giveLeastFree_L4 K p1 land there near trial fits ways _ n5 (0 : Int32) (0 : Int32) worn h (fun v6 v7 h => ?_)
  refine x_iload_n (pc := 51) K dX0_giveLeastFree_51 0 rfl rfl ?_
  exact hE v6 v7 _ _ h dX0_giveLeastFree_52
abbrev rm_X0_chainOf : Room := { frames := 9, cells := 0, slots := 0, locals := 160 }
theorem inX0_chainOf : ∀ w ∈ u_ws RX0 TX0 8, w ∈ wsX0_chainOf := by decide +kernel
theorem kX0_chainOf_0 : Cond.fieldLink RX0 13 "FourTints" "there" "I" ∈ wsX0_chainOf := by decide +kernel
theorem kX0_chainOf_1 : Cond.fieldLink RX0 21 "FourTints" "worn" "[I" ∈ wsX0_chainOf := by decide +kernel
theorem kX0_chainOf_2 : Cond.fieldLink RX0 17 "FourTints" "near" "[I" ∈ wsX0_chainOf := by decide +kernel
def q_X0_chainOf_L44 (u3 : Int32) (u4 : Int32) (near : Nat → Int32) (P0 : Int32 → Prop) : Nat → Int32 → Int32 → Prop
  | 0, _, _ => False
  | n + 1, x6, x7 => (((10 : Int32) ≤ x7 → P0 x6) ∧ (¬ (10 : Int32) ≤ x7 → q_X0_has u4 x7 (fun (r5 : Int32) => ((r5 = (0 : Int32) → q_X0_chainOf_L44 u3 u4 near P0 n x6 (x7 + (1 : Int32))) ∧ (¬ r5 = (0 : Int32) → xin x7 10 = true ∧ xl (x6 ||| ((near x7.toNatClampNeg) &&& u3)) (fun y6 => q_X0_chainOf_L44 u3 u4 near P0 n y6 (x7 + (1 : Int32))))))))
def q_X0_chainOf_L30 (u3 : Int32) (near : Nat → Int32) (P0 : Int32 → Prop) : Nat → Int32 → Int32 → Prop
  | 0, _, _ => False
  | n + 1, x4, x5 => (((10 : Int32) ≤ x5 → P0 x4) ∧ (¬ (10 : Int32) ≤ x5 → (∃ n7 : Nat, q_X0_chainOf_L44 u3 x4 near (fun (v8 : Int32) => q_X0_chainOf_L30 u3 near P0 n v8 (x5 + (1 : Int32))) n7 x4 (0 : Int32))))
def q_X0_chainOf (p1 : Int32) (p2 : Int32) (there : Int32) (near : Nat → Int32) (worn : Nat → Int32) (P : Int32 → Prop) : Prop := xin p1 10 = true ∧ q_X0_wearing (worn p1.toNatClampNeg) worn (fun (r1 : Int32) => q_X0_wearing p2 worn (fun (r2 : Int32) => xl (there &&& (r1 ||| r2)) (fun y3 => xl ((1 : Int32) <<< (p1 &&& 31)) (fun y4 => (∃ n9 : Nat, q_X0_chainOf_L30 y3 near (fun (v10 : Int32) => P v10) n9 y4 (0 : Int32))))))
set_option maxHeartbeats 4000000 in
set_option maxRecDepth 100000 in
theorem w_X0_chainOf_L44 {X : xC} {l : Launch} {D : va_G} {cI cJ cZ cA : ClassId} {V : Nat → Nat} (K : xk X l rm_X0_chainOf D vwCl (xtys cI cJ cZ cA) cX0_chainOf RX0 wsX0_chainOf 8) (u3 : Int32) (u4 : Int32) (u5 : Int32) (land : Nat → Int64) (there : Int32) (near : Nat → Int32) (worn : Nat → Int32) (trial : Nat → Int32) (fits : Nat → Int32) (ways : Nat → Int64) (P0 : Int32 → Prop) : ∀ (n : Nat) (x6 : Int32) (x7 : Int32), q_X0_chainOf_L44 u3 u4 near P0 n x6 x7 → (∀ (z0 : Int32), P0 z0 → xw X 0 0 81 [(0, .ref (V 0)), (3, .int u3), (5, .int u5), (6, .int z0)] [] (wX0 cI cJ cZ cA V land there near worn trial fits ways)) → xw X 0 0 44 [(0, .ref (V 0)), (3, .int u3), (4, .int u4), (5, .int u5), (6, .int x6), (7, .int x7)] [] (wX0 cI cJ cZ cA V land there near worn trial fits ways) := by
  intro n
  induction n with
  | zero =>
    intro x6 x7 h
    rw [q_X0_chainOf_L44] at h
    exact h.elim
  | succ n ih =>
    intro x6 x7 h k0
    rw [q_X0_chainOf_L44] at h
    refine x_iload (pc := 44) K dX0_chainOf_44 5 rfl ?_
    refine x_bipush (v := (10)) (pc := 46) K dX0_chainOf_46 (by decide) ?_
    refine x_icmp_ge (pc := 48) K dX0_chainOf_48 (tgt := 81) (by decide) (fun c9 => ?_) (fun c9 => ?_)
    · have h := h.1 c9
      refine x_keep [true, true, false, true, true, false] rfl ?_
      exact k0 x6 h
    · have h := h.2 c9
      refine x_iload (pc := 51) K dX0_chainOf_51 2 rfl ?_
      refine x_iload (pc := 53) K dX0_chainOf_53 5 rfl ?_
      refine x_pcallSz (pc := 55) (n := 2) K (c_X0_has l D cI cJ cZ cA u4 x7 _ h) rfl rfl gX0_chainOf_X0_has rfl (by decide +kernel) ⟨Nat.le_of_ble_eq_true rfl, Nat.le_of_ble_eq_true rfl⟩ rfl (av := [.int u4, .int x7]) rfl (Nat.le_of_ble_eq_true rfl) dX0_chainOf_55 ⟨Nat.le_of_ble_eq_true rfl, Nat.le_of_ble_eq_true rfl⟩ (fun r5 u9 h => ?_)
      refine x_if_eq (pc := 58) K dX0_chainOf_58 (tgt := 75) (by decide) (fun c9 => ?_) (fun c9 => ?_)
      · have h := h.1 c9
        refine x_iinc (v := x7 + (1 : Int32)) (lv' := [(0, .ref (V 0)), (3, .int u3), (4, .int u4), (5, .int u5), (6, .int x6), (7, .int (x7 + (1 : Int32)))]) (pc := 75) K dX0_chainOf_75 (k := 5) rfl rfl (by decide) rfl ?_
        refine x_goto (pc := 78) K dX0_chainOf_78 (tgt := 44) (by decide) ?_
        exact ih x6 (x7 + (1 : Int32)) h k0
      · have h := h.2 c9
        refine x_iload (pc := 61) K dX0_chainOf_61 4 rfl ?_
        refine x_aload_n (pc := 63) K dX0_chainOf_63 0 rfl rfl ?_
        refine x_get (pc := 64) (ci := 0) (C := RX0) (T := TX0) (N := 8) K (inX0_chainOf) 0 rfl rfl 2 (by decide) kX0_chainOf_2 rfl rfl dX0_chainOf_64 ?_
        refine x_iload (pc := 67) K dX0_chainOf_67 5 rfl ?_
        have g9 := h.1
        replace h := h.2
        refine x_iald (pc := 69) K 2 0 rfl rfl g9 dX0_chainOf_69 ?_
        clear g9
        refine x_iload_n (pc := 70) K dX0_chainOf_70 1 rfl rfl ?_
        refine x_iand (pc := 71) K dX0_chainOf_71 ?_
        refine x_ior (pc := 72) K dX0_chainOf_72 ?_
        obtain ⟨y6, ey6, h⟩ := xl_o h
        refine x_topi ey6 ?_
        clear ey6
        refine x_istore (lv' := [(0, .ref (V 0)), (3, .int u3), (4, .int u4), (5, .int u5), (6, .int y6), (7, .int x7)]) (pc := 73) K dX0_chainOf_73 (by decide) rfl ?_
        refine x_iinc (v := x7 + (1 : Int32)) (lv' := [(0, .ref (V 0)), (3, .int u3), (4, .int u4), (5, .int u5), (6, .int y6), (7, .int (x7 + (1 : Int32)))]) (pc := 75) K dX0_chainOf_75 (k := 5) rfl rfl (by decide) rfl ?_
        refine x_goto (pc := 78) K dX0_chainOf_78 (tgt := 44) (by decide) ?_
        exact ih y6 (x7 + (1 : Int32)) h k0
set_option maxHeartbeats 4000000 in
set_option maxRecDepth 100000 in
theorem w_X0_chainOf_L30 {X : xC} {l : Launch} {D : va_G} {cI cJ cZ cA : ClassId} {V : Nat → Nat} (K : xk X l rm_X0_chainOf D vwCl (xtys cI cJ cZ cA) cX0_chainOf RX0 wsX0_chainOf 8) (u3 : Int32) (land : Nat → Int64) (there : Int32) (near : Nat → Int32) (worn : Nat → Int32) (trial : Nat → Int32) (fits : Nat → Int32) (ways : Nat → Int64) (P0 : Int32 → Prop) : ∀ (n : Nat) (x4 : Int32) (x5 : Int32), q_X0_chainOf_L30 u3 near P0 n x4 x5 → (∀ (z0 : Int32), P0 z0 → xw X 0 0 91 [(4, .int z0)] [] (wX0 cI cJ cZ cA V land there near worn trial fits ways)) → xw X 0 0 30 [(0, .ref (V 0)), (3, .int u3), (4, .int x4), (5, .int x5)] [] (wX0 cI cJ cZ cA V land there near worn trial fits ways) := by
  intro n
  induction n with
  | zero =>
    intro x4 x5 h
    rw [q_X0_chainOf_L30] at h
    exact h.elim
  | succ n ih =>
    intro x4 x5 h k0
    rw [q_X0_chainOf_L30] at h
    refine x_iload (pc := 30) K dX0_chainOf_30 3 rfl ?_
    refine x_bipush (v := (10)) (pc := 32) K dX0_chainOf_32 (by decide) ?_
    refine x_icmp_ge (pc := 34) K dX0_chainOf_34 (tgt := 91) (by decide) (fun c9 => ?_) (fun c9 => ?_)
    · have h := h.1 c9
      refine x_keep [false, false, true, false] rfl ?_
      exact k0 x4 h
    · have h := h.2 c9
      refine x_iload (pc := 37) K dX0_chainOf_37 2 rfl ?_
      refine x_istore (lv' := [(0, .ref (V 0)), (3, .int u3), (4, .int x4), (5, .int x5), (6, .int x4)]) (pc := 39) K dX0_chainOf_39 (by decide) rfl ?_
      refine x_iconst (v := (0)) (pc := 41) K dX0_chainOf_41 (by decide) ?_
      refine x_istore (lv' := [(0, .ref (V 0)), (3, .int u3), (4, .int x4), (5, .int x5), (6, .int x4), (7, .int (0 : Int32))]) (pc := 42) K dX0_chainOf_42 (by decide) rfl ?_
      obtain ⟨n7, h⟩ := h
      refine w_X0_chainOf_L44 K u3 x4 x5 land there near worn trial fits ways _ n7 x4 (0 : Int32) h (fun v8 h => ?_)
      refine x_iload (pc := 81) K dX0_chainOf_81 3 rfl ?_
      refine x_istore (lv' := [(0, .ref (V 0)), (3, .int u3), (4, .int v8), (5, .int x5), (6, .int v8)]) (pc := 83) K dX0_chainOf_83 (by decide) rfl ?_
      refine x_iinc (v := x5 + (1 : Int32)) (lv' := [(0, .ref (V 0)), (3, .int u3), (4, .int v8), (5, .int (x5 + (1 : Int32))), (6, .int v8)]) (pc := 85) K dX0_chainOf_85 (k := 3) rfl rfl (by decide) rfl ?_
      refine x_goto (pc := 88) K dX0_chainOf_88 (tgt := 30) (by decide) ?_
      refine x_keep [true, true, true, true, false] rfl ?_
      exact ih v8 (x5 + (1 : Int32)) h k0
set_option maxHeartbeats 4000000 in
set_option maxRecDepth 100000 in
theorem c_X0_chainOf (l : Launch) (D : va_G) (cI cJ cZ cA : ClassId) (V : Nat → Nat) (p1 : Int32) (p2 : Int32) (land : Nat → Int64) (there : Int32) (near : Nat → Int32) (worn : Nat → Int32) (trial : Nat → Int32) (fits : Nat → Int32) (ways : Nat → Int64) (P : Int32 → Prop) (h : q_X0_chainOf p1 p2 there near worn P) : xMi l yX0_chainOf wsX0_chainOf rm_X0_chainOf D vwCl (xtys cI cJ cZ cA) (wX0 cI cJ cZ cA V land there near worn trial fits ways) [.ref (V 0), .int p1, .int p2] (σ := Unit) (fun _ => (wX0 cI cJ cZ cA V land there near worn trial fits ways)) (fun r _ => P r) := by
  refine xMi_of (cc := cX0_chainOf) (maxL := 8) (by decide) rfl (Nat.le_of_ble_eq_true rfl) ?_
  intro X K hE
  have K : xk X l rm_X0_chainOf D vwCl (xtys cI cJ cZ cA) cX0_chainOf RX0 wsX0_chainOf 8 := K
  unfold q_X0_chainOf at h
  refine x_aload_n (pc := 0) K dX0_chainOf_0 0 rfl rfl ?_
  refine x_get (pc := 1) (ci := 0) (C := RX0) (T := TX0) (N := 8) K (inX0_chainOf) 0 rfl rfl 1 (by decide) kX0_chainOf_0 rfl rfl dX0_chainOf_1 ?_
  refine x_aload_n (pc := 4) K dX0_chainOf_4 0 rfl rfl ?_
  refine x_aload_n (pc := 5) K dX0_chainOf_5 0 rfl rfl ?_
  refine x_get (pc := 6) (ci := 0) (C := RX0) (T := TX0) (N := 8) K (inX0_chainOf) 0 rfl rfl 3 (by decide) kX0_chainOf_1 rfl rfl dX0_chainOf_6 ?_
  refine x_iload_n (pc := 9) K dX0_chainOf_9 1 rfl rfl ?_
  have g9 := h.1
  replace h := h.2
  refine x_iald (pc := 10) K 3 0 rfl rfl g9 dX0_chainOf_10 ?_
  clear g9
  refine x_callVi (pc := 11) (n := 1) K (c_X0_wearing l D cI cJ cZ cA V (worn p1.toNatClampNeg) land there near worn trial fits ways _ h) rfl rfl gX0_chainOf_X0_wearing rfl (by decide +kernel) ⟨Nat.le_of_ble_eq_true rfl, Nat.le_of_ble_eq_true rfl⟩ rfl (av := [.int (worn p1.toNatClampNeg)]) (b := V 0) (ci := 0) (q0 := 0) rfl rfl rfl (Nat.le_of_ble_eq_true rfl) [0, 1, 2, 3, 4, 5, 6] [] (wr := []) rfl rfl rfl rfl (by decide) dX0_chainOf_11 ⟨Nat.le_of_ble_eq_true rfl, Nat.le_of_ble_eq_true rfl⟩ (fun r1 u9 h => ?_)
  refine x_ws (ws' := (wX0 cI cJ cZ cA V land there near worn trial fits ways)) rfl ?_
  refine x_aload_n (pc := 14) K dX0_chainOf_14 0 rfl rfl ?_
  refine x_iload_n (pc := 15) K dX0_chainOf_15 2 rfl rfl ?_
  refine x_callVi (pc := 16) (n := 1) K (c_X0_wearing l D cI cJ cZ cA V p2 land there near worn trial fits ways _ h) rfl rfl gX0_chainOf_X0_wearing rfl (by decide +kernel) ⟨Nat.le_of_ble_eq_true rfl, Nat.le_of_ble_eq_true rfl⟩ rfl (av := [.int p2]) (b := V 0) (ci := 0) (q0 := 0) rfl rfl rfl (Nat.le_of_ble_eq_true rfl) [0, 1, 2, 3, 4, 5, 6] [] (wr := []) rfl rfl rfl rfl (by decide) dX0_chainOf_16 ⟨Nat.le_of_ble_eq_true rfl, Nat.le_of_ble_eq_true rfl⟩ (fun r2 u9 h => ?_)
  refine x_ws (ws' := (wX0 cI cJ cZ cA V land there near worn trial fits ways)) rfl ?_
  refine x_ior (pc := 19) K dX0_chainOf_19 ?_
  refine x_iand (pc := 20) K dX0_chainOf_20 ?_
  obtain ⟨y3, ey3, h⟩ := xl_o h
  refine x_topi ey3 ?_
  clear ey3
  refine x_istore_n (lv' := [(0, .ref (V 0)), (1, .int p1), (2, .int p2), (3, .int y3)]) (pc := 21) K dX0_chainOf_21 rfl (by decide) rfl ?_
  refine x_iconst (v := (1)) (pc := 22) K dX0_chainOf_22 (by decide) ?_
  refine x_iload_n (pc := 23) K dX0_chainOf_23 1 rfl rfl ?_
  refine x_ishl (pc := 24) K dX0_chainOf_24 ?_
  obtain ⟨y4, ey4, h⟩ := xl_o h
  refine x_topi ey4 ?_
  clear ey4
  refine x_istore (lv' := [(0, .ref (V 0)), (1, .int p1), (2, .int p2), (3, .int y3), (4, .int y4)]) (pc := 25) K dX0_chainOf_25 (by decide) rfl ?_
  refine x_iconst (v := (0)) (pc := 27) K dX0_chainOf_27 (by decide) ?_
  refine x_istore (lv' := [(0, .ref (V 0)), (1, .int p1), (2, .int p2), (3, .int y3), (4, .int y4), (5, .int (0 : Int32))]) (pc := 28) K dX0_chainOf_28 (by decide) rfl ?_
  refine x_keep [true, false, false, true, true, true] rfl ?_
  obtain ⟨n9, h⟩ := h
  refine w_X0_chainOf_L30 K y3 land there near worn trial fits ways _ n9 y4 (0 : Int32) h (fun v10 h => ?_)
  refine x_iload (pc := 91) K dX0_chainOf_91 0 rfl ?_
  exact hE v10 () _ _ h dX0_chainOf_93
abbrev rm_X0_markSetsOfNeighbours : Room := { frames := 8, cells := 0, slots := 0, locals := 120 }
theorem inX0_markSetsOfNeighbours : ∀ w ∈ u_ws RX0 TX0 8, w ∈ wsX0_markSetsOfNeighbours := by decide +kernel
theorem kX0_markSetsOfNeighbours_0 : Cond.fieldLink RX0 27 "FourTints" "fits" "[Z" ∈ wsX0_markSetsOfNeighbours := by decide +kernel
theorem kX0_markSetsOfNeighbours_1 : Cond.fieldLink RX0 17 "FourTints" "near" "[I" ∈ wsX0_markSetsOfNeighbours := by decide +kernel
def q_X0_markSetsOfNeighbours_L17 (u1 : Int32) (near : Nat → Int32) (P0 : (Nat → Int32) → Prop) : Nat → Int32 → (Nat → Int32) → Prop
  | 0, _, _ => False
  | n + 1, x2, fits => ((((1 : Int32) <<< (u1 &&& 31)) ≤ x2 → P0 fits) ∧ (¬ ((1 : Int32) <<< (u1 &&& 31)) ≤ x2 → xin x2 1024 = true ∧ (((fits x2.toNatClampNeg) = (0 : Int32) → xin (x2 ||| ((1 : Int32) <<< (u1 &&& 31))) 1024 = true ∧ q_X0_markSetsOfNeighbours_L17 u1 near P0 n (x2 + (1 : Int32)) (upd fits ((x2 ||| ((1 : Int32) <<< (u1 &&& 31))).toNatClampNeg) (vp_nar .boolean (0 : Int32)))) ∧ (¬ (fits x2.toNatClampNeg) = (0 : Int32) → xin u1 10 = true ∧ ((¬ (x2 &&& ((near u1.toNatClampNeg) ^^^ (-1 : Int32))) = (0 : Int32) → xin (x2 ||| ((1 : Int32) <<< (u1 &&& 31))) 1024 = true ∧ q_X0_markSetsOfNeighbours_L17 u1 near P0 n (x2 + (1 : Int32)) (upd fits ((x2 ||| ((1 : Int32) <<< (u1 &&& 31))).toNatClampNeg) (vp_nar .boolean (0 : Int32)))) ∧ ((x2 &&& ((near u1.toNatClampNeg) ^^^ (-1 : Int32))) = (0 : Int32) → xin (x2 ||| ((1 : Int32) <<< (u1 &&& 31))) 1024 = true ∧ q_X0_markSetsOfNeighbours_L17 u1 near P0 n (x2 + (1 : Int32)) (upd fits ((x2 ||| ((1 : Int32) <<< (u1 &&& 31))).toNatClampNeg) (vp_nar .boolean (1 : Int32)))))))))
def q_X0_markSetsOfNeighbours_L9 (near : Nat → Int32) (P0 : (Nat → Int32) → Prop) : Nat → Int32 → (Nat → Int32) → Prop
  | 0, _, _ => False
  | n + 1, x1, fits => (((10 : Int32) ≤ x1 → P0 fits) ∧ (¬ (10 : Int32) ≤ x1 → (∃ n5 : Nat, q_X0_markSetsOfNeighbours_L17 x1 near (fun (v6 : Nat → Int32) => q_X0_markSetsOfNeighbours_L9 near P0 n (x1 + (1 : Int32)) v6) n5 (0 : Int32) fits)))
def q_X0_markSetsOfNeighbours (near : Nat → Int32) (fits : Nat → Int32) (P : (Nat → Int32) → Prop) : Prop := xin (0 : Int32) 1024 = true ∧ (∃ n7 : Nat, q_X0_markSetsOfNeighbours_L9 near (fun (v8 : Nat → Int32) => P v8) n7 (0 : Int32) (upd fits ((0 : Int32).toNatClampNeg) (vp_nar .boolean (1 : Int32))))
set_option maxHeartbeats 4000000 in
set_option maxRecDepth 100000 in
theorem w_X0_markSetsOfNeighbours_L17 {X : xC} {l : Launch} {D : va_G} {cI cJ cZ cA : ClassId} {V : Nat → Nat} (K : xk X l rm_X0_markSetsOfNeighbours D vwCl (xtys cI cJ cZ cA) cX0_markSetsOfNeighbours RX0 wsX0_markSetsOfNeighbours 3) (u1 : Int32) (land : Nat → Int64) (there : Int32) (near : Nat → Int32) (worn : Nat → Int32) (trial : Nat → Int32) (ways : Nat → Int64) (P0 : (Nat → Int32) → Prop) : ∀ (n : Nat) (x2 : Int32) (fits : Nat → Int32), q_X0_markSetsOfNeighbours_L17 u1 near P0 n x2 fits → (∀ (z0 : Nat → Int32), P0 z0 → xw X 0 0 67 [(0, .ref (V 0)), (1, .int u1)] [] (wX0 cI cJ cZ cA V land there near worn trial z0 ways)) → xw X 0 0 17 [(0, .ref (V 0)), (1, .int u1), (2, .int x2)] [] (wX0 cI cJ cZ cA V land there near worn trial fits ways) := by
  intro n
  induction n with
  | zero =>
    intro x2 fits h
    rw [q_X0_markSetsOfNeighbours_L17] at h
    exact h.elim
  | succ n ih =>
    intro x2 fits h k0
    rw [q_X0_markSetsOfNeighbours_L17] at h
    refine x_iload_n (pc := 17) K dX0_markSetsOfNeighbours_17 2 rfl rfl ?_
    refine x_iconst (v := (1)) (pc := 18) K dX0_markSetsOfNeighbours_18 (by decide) ?_
    refine x_iload_n (pc := 19) K dX0_markSetsOfNeighbours_19 1 rfl rfl ?_
    refine x_ishl (pc := 20) K dX0_markSetsOfNeighbours_20 ?_
    refine x_icmp_ge (pc := 21) K dX0_markSetsOfNeighbours_21 (tgt := 67) (by decide) (fun c9 => ?_) (fun c9 => ?_)
    · have h := h.1 c9
      refine x_keep [true, true, false] rfl ?_
      exact k0 fits h
    · have h := h.2 c9
      refine x_aload_n (pc := 24) K dX0_markSetsOfNeighbours_24 0 rfl rfl ?_
      refine x_get (pc := 25) (ci := 0) (C := RX0) (T := TX0) (N := 8) K (inX0_markSetsOfNeighbours) 0 rfl rfl 5 (by decide) kX0_markSetsOfNeighbours_0 rfl rfl dX0_markSetsOfNeighbours_25 ?_
      refine x_iload_n (pc := 28) K dX0_markSetsOfNeighbours_28 2 rfl rfl ?_
      refine x_iconst (v := (1)) (pc := 29) K dX0_markSetsOfNeighbours_29 (by decide) ?_
      refine x_iload_n (pc := 30) K dX0_markSetsOfNeighbours_30 1 rfl rfl ?_
      refine x_ishl (pc := 31) K dX0_markSetsOfNeighbours_31 ?_
      refine x_ior (pc := 32) K dX0_markSetsOfNeighbours_32 ?_
      refine x_aload_n (pc := 33) K dX0_markSetsOfNeighbours_33 0 rfl rfl ?_
      refine x_get (pc := 34) (ci := 0) (C := RX0) (T := TX0) (N := 8) K (inX0_markSetsOfNeighbours) 0 rfl rfl 5 (by decide) kX0_markSetsOfNeighbours_0 rfl rfl dX0_markSetsOfNeighbours_34 ?_
      refine x_iload_n (pc := 37) K dX0_markSetsOfNeighbours_37 2 rfl rfl ?_
      have g9 := h.1
      replace h := h.2
      refine x_zald (pc := 38) K 5 2 rfl rfl g9 dX0_markSetsOfNeighbours_38 ?_
      clear g9
      refine x_if_eq (pc := 39) K dX0_markSetsOfNeighbours_39 (tgt := 59) (by decide) (fun c9 => ?_) (fun c9 => ?_)
      · have h := h.1 c9
        refine x_iconst (v := (0)) (pc := 59) K dX0_markSetsOfNeighbours_59 (by decide) ?_
        have g9 := h.1
        replace h := h.2
        refine x_zast (ws' := (wX0 cI cJ cZ cA V land there near worn trial (upd fits ((x2 ||| ((1 : Int32) <<< (u1 &&& 31))).toNatClampNeg) (vp_nar .boolean (0 : Int32))) ways)) (pc := 60) K 5 2 rfl rfl rfl g9 dX0_markSetsOfNeighbours_60 ?_
        clear g9
        refine x_iinc (v := x2 + (1 : Int32)) (lv' := [(0, .ref (V 0)), (1, .int u1), (2, .int (x2 + (1 : Int32)))]) (pc := 61) K dX0_markSetsOfNeighbours_61 (k := 2) rfl rfl (by decide) rfl ?_
        refine x_goto (pc := 64) K dX0_markSetsOfNeighbours_64 (tgt := 17) (by decide) ?_
        exact ih (x2 + (1 : Int32)) (upd fits ((x2 ||| ((1 : Int32) <<< (u1 &&& 31))).toNatClampNeg) (vp_nar .boolean (0 : Int32))) h k0
      · have h := h.2 c9
        refine x_iload_n (pc := 42) K dX0_markSetsOfNeighbours_42 2 rfl rfl ?_
        refine x_aload_n (pc := 43) K dX0_markSetsOfNeighbours_43 0 rfl rfl ?_
        refine x_get (pc := 44) (ci := 0) (C := RX0) (T := TX0) (N := 8) K (inX0_markSetsOfNeighbours) 0 rfl rfl 2 (by decide) kX0_markSetsOfNeighbours_1 rfl rfl dX0_markSetsOfNeighbours_44 ?_
        refine x_iload_n (pc := 47) K dX0_markSetsOfNeighbours_47 1 rfl rfl ?_
        have g9 := h.1
        replace h := h.2
        refine x_iald (pc := 48) K 2 0 rfl rfl g9 dX0_markSetsOfNeighbours_48 ?_
        clear g9
        refine x_iconst (v := (-1)) (pc := 49) K dX0_markSetsOfNeighbours_49 (by decide) ?_
        refine x_ixor (pc := 50) K dX0_markSetsOfNeighbours_50 ?_
        refine x_iand (pc := 51) K dX0_markSetsOfNeighbours_51 ?_
        refine x_if_ne (pc := 52) K dX0_markSetsOfNeighbours_52 (tgt := 59) (by decide) (fun c9 => ?_) (fun c9 => ?_)
        · have h := h.1 c9
          refine x_iconst (v := (0)) (pc := 59) K dX0_markSetsOfNeighbours_59 (by decide) ?_
          have g9 := h.1
          replace h := h.2
          refine x_zast (ws' := (wX0 cI cJ cZ cA V land there near worn trial (upd fits ((x2 ||| ((1 : Int32) <<< (u1 &&& 31))).toNatClampNeg) (vp_nar .boolean (0 : Int32))) ways)) (pc := 60) K 5 2 rfl rfl rfl g9 dX0_markSetsOfNeighbours_60 ?_
          clear g9
          refine x_iinc (v := x2 + (1 : Int32)) (lv' := [(0, .ref (V 0)), (1, .int u1), (2, .int (x2 + (1 : Int32)))]) (pc := 61) K dX0_markSetsOfNeighbours_61 (k := 2) rfl rfl (by decide) rfl ?_
          refine x_goto (pc := 64) K dX0_markSetsOfNeighbours_64 (tgt := 17) (by decide) ?_
          exact ih (x2 + (1 : Int32)) (upd fits ((x2 ||| ((1 : Int32) <<< (u1 &&& 31))).toNatClampNeg) (vp_nar .boolean (0 : Int32))) h k0
        · have h := h.2 c9
          refine x_iconst (v := (1)) (pc := 55) K dX0_markSetsOfNeighbours_55 (by decide) ?_
          refine x_goto (pc := 56) K dX0_markSetsOfNeighbours_56 (tgt := 60) (by decide) ?_
          have g9 := h.1
          replace h := h.2
          refine x_zast (ws' := (wX0 cI cJ cZ cA V land there near worn trial (upd fits ((x2 ||| ((1 : Int32) <<< (u1 &&& 31))).toNatClampNeg) (vp_nar .boolean (1 : Int32))) ways)) (pc := 60) K 5 2 rfl rfl rfl g9 dX0_markSetsOfNeighbours_60 ?_
          clear g9
          refine x_iinc (v := x2 + (1 : Int32)) (lv' := [(0, .ref (V 0)), (1, .int u1), (2, .int (x2 + (1 : Int32)))]) (pc := 61) K dX0_markSetsOfNeighbours_61 (k := 2) rfl rfl (by decide) rfl ?_
          refine x_goto (pc := 64) K dX0_markSetsOfNeighbours_64 (tgt := 17) (by decide) ?_
          exact ih (x2 + (1 : Int32)) (upd fits ((x2 ||| ((1 : Int32) <<< (u1 &&& 31))).toNatClampNeg) (vp_nar .boolean (1 : Int32))) h k0
set_option maxHeartbeats 4000000 in
set_option maxRecDepth 100000 in
theorem w_X0_markSetsOfNeighbours_L9 {X : xC} {l : Launch} {D : va_G} {cI cJ cZ cA : ClassId} {V : Nat → Nat} (K : xk X l rm_X0_markSetsOfNeighbours D vwCl (xtys cI cJ cZ cA) cX0_markSetsOfNeighbours RX0 wsX0_markSetsOfNeighbours 3) (land : Nat → Int64) (there : Int32) (near : Nat → Int32) (worn : Nat → Int32) (trial : Nat → Int32) (ways : Nat → Int64) (P0 : (Nat → Int32) → Prop) : ∀ (n : Nat) (x1 : Int32) (fits : Nat → Int32), q_X0_markSetsOfNeighbours_L9 near P0 n x1 fits → (∀ (z0 : Nat → Int32), P0 z0 → xw X 0 0 73 [] [] (wX0 cI cJ cZ cA V land there near worn trial z0 ways)) → xw X 0 0 9 [(0, .ref (V 0)), (1, .int x1)] [] (wX0 cI cJ cZ cA V land there near worn trial fits ways) := by
  intro n
  induction n with
  | zero =>
    intro x1 fits h
    rw [q_X0_markSetsOfNeighbours_L9] at h
    exact h.elim
  | succ n ih =>
    intro x1 fits h k0
    rw [q_X0_markSetsOfNeighbours_L9] at h
    refine x_iload_n (pc := 9) K dX0_markSetsOfNeighbours_9 1 rfl rfl ?_
    refine x_bipush (v := (10)) (pc := 10) K dX0_markSetsOfNeighbours_10 (by decide) ?_
    refine x_icmp_ge (pc := 12) K dX0_markSetsOfNeighbours_12 (tgt := 73) (by decide) (fun c9 => ?_) (fun c9 => ?_)
    · have h := h.1 c9
      refine x_keep [false, false] rfl ?_
      exact k0 fits h
    · have h := h.2 c9
      refine x_iconst (v := (0)) (pc := 15) K dX0_markSetsOfNeighbours_15 (by decide) ?_
      refine x_istore_n (lv' := [(0, .ref (V 0)), (1, .int x1), (2, .int (0 : Int32))]) (pc := 16) K dX0_markSetsOfNeighbours_16 rfl (by decide) rfl ?_
      obtain ⟨n5, h⟩ := h
      refine w_X0_markSetsOfNeighbours_L17 K x1 land there near worn trial ways _ n5 (0 : Int32) fits h (fun v6 h => ?_)
      refine x_iinc (v := x1 + (1 : Int32)) (lv' := [(0, .ref (V 0)), (1, .int (x1 + (1 : Int32)))]) (pc := 67) K dX0_markSetsOfNeighbours_67 (k := 1) rfl rfl (by decide) rfl ?_
      refine x_goto (pc := 70) K dX0_markSetsOfNeighbours_70 (tgt := 9) (by decide) ?_
      exact ih (x1 + (1 : Int32)) v6 h k0
set_option maxHeartbeats 4000000 in
set_option maxRecDepth 100000 in
theorem c_X0_markSetsOfNeighbours (l : Launch) (D : va_G) (cI cJ cZ cA : ClassId) (V : Nat → Nat) (land : Nat → Int64) (there : Int32) (near : Nat → Int32) (worn : Nat → Int32) (trial : Nat → Int32) (fits : Nat → Int32) (ways : Nat → Int64) (P : (Nat → Int32) → Prop) (h : q_X0_markSetsOfNeighbours near fits P) : xMv l yX0_markSetsOfNeighbours wsX0_markSetsOfNeighbours rm_X0_markSetsOfNeighbours D vwCl (xtys cI cJ cZ cA) (wX0 cI cJ cZ cA V land there near worn trial fits ways) [.ref (V 0)] (σ := (Nat → Int32)) (fun u => (wX0 cI cJ cZ cA V land there near worn trial u ways)) (fun u => P u) := by
  refine xMv_of (cc := cX0_markSetsOfNeighbours) (maxL := 3) (by decide) rfl (Nat.le_of_ble_eq_true rfl) ?_
  intro X K hE
  have K : xk X l rm_X0_markSetsOfNeighbours D vwCl (xtys cI cJ cZ cA) cX0_markSetsOfNeighbours RX0 wsX0_markSetsOfNeighbours 3 := K
  unfold q_X0_markSetsOfNeighbours at h
  refine x_aload_n (pc := 0) K dX0_markSetsOfNeighbours_0 0 rfl rfl ?_
  refine x_get (pc := 1) (ci := 0) (C := RX0) (T := TX0) (N := 8) K (inX0_markSetsOfNeighbours) 0 rfl rfl 5 (by decide) kX0_markSetsOfNeighbours_0 rfl rfl dX0_markSetsOfNeighbours_1 ?_
  refine x_iconst (v := (0)) (pc := 4) K dX0_markSetsOfNeighbours_4 (by decide) ?_
  refine x_iconst (v := (1)) (pc := 5) K dX0_markSetsOfNeighbours_5 (by decide) ?_
  have g9 := h.1
  replace h := h.2
  refine x_zast (ws' := (wX0 cI cJ cZ cA V land there near worn trial (upd fits ((0 : Int32).toNatClampNeg) (vp_nar .boolean (1 : Int32))) ways)) (pc := 6) K 5 2 rfl rfl rfl g9 dX0_markSetsOfNeighbours_6 ?_
  clear g9
  refine x_iconst (v := (0)) (pc := 7) K dX0_markSetsOfNeighbours_7 (by decide) ?_
  refine x_istore_n (lv' := [(0, .ref (V 0)), (1, .int (0 : Int32))]) (pc := 8) K dX0_markSetsOfNeighbours_8 rfl (by decide) rfl ?_
  obtain ⟨n7, h⟩ := h
  refine w_X0_markSetsOfNeighbours_L9 K land there near worn trial ways _ n7 (0 : Int32) (upd fits ((0 : Int32).toNatClampNeg) (vp_nar .boolean (1 : Int32))) h (fun v8 h => ?_)
  exact hE v8 _ _ h dX0_markSetsOfNeighbours_73
abbrev rm_X0_markSetsWithoutNeighbours : Room := { frames := 8, cells := 0, slots := 0, locals := 120 }
theorem inX0_markSetsWithoutNeighbours : ∀ w ∈ u_ws RX0 TX0 8, w ∈ wsX0_markSetsWithoutNeighbours := by decide +kernel
theorem kX0_markSetsWithoutNeighbours_0 : Cond.fieldLink RX0 27 "FourTints" "fits" "[Z" ∈ wsX0_markSetsWithoutNeighbours := by decide +kernel
theorem kX0_markSetsWithoutNeighbours_1 : Cond.fieldLink RX0 17 "FourTints" "near" "[I" ∈ wsX0_markSetsWithoutNeighbours := by decide +kernel
def q_X0_markSetsWithoutNeighbours_L17 (u1 : Int32) (near : Nat → Int32) (P0 : (Nat → Int32) → Prop) : Nat → Int32 → (Nat → Int32) → Prop
  | 0, _, _ => False
  | n + 1, x2, fits => ((((1 : Int32) <<< (u1 &&& 31)) ≤ x2 → P0 fits) ∧ (¬ ((1 : Int32) <<< (u1 &&& 31)) ≤ x2 → xin x2 1024 = true ∧ (((fits x2.toNatClampNeg) = (0 : Int32) → xin (x2 ||| ((1 : Int32) <<< (u1 &&& 31))) 1024 = true ∧ q_X0_markSetsWithoutNeighbours_L17 u1 near P0 n (x2 + (1 : Int32)) (upd fits ((x2 ||| ((1 : Int32) <<< (u1 &&& 31))).toNatClampNeg) (vp_nar .boolean (0 : Int32)))) ∧ (¬ (fits x2.toNatClampNeg) = (0 : Int32) → xin u1 10 = true ∧ ((¬ (x2 &&& (near u1.toNatClampNeg)) = (0 : Int32) → xin (x2 ||| ((1 : Int32) <<< (u1 &&& 31))) 1024 = true ∧ q_X0_markSetsWithoutNeighbours_L17 u1 near P0 n (x2 + (1 : Int32)) (upd fits ((x2 ||| ((1 : Int32) <<< (u1 &&& 31))).toNatClampNeg) (vp_nar .boolean (0 : Int32)))) ∧ ((x2 &&& (near u1.toNatClampNeg)) = (0 : Int32) → xin (x2 ||| ((1 : Int32) <<< (u1 &&& 31))) 1024 = true ∧ q_X0_markSetsWithoutNeighbours_L17 u1 near P0 n (x2 + (1 : Int32)) (upd fits ((x2 ||| ((1 : Int32) <<< (u1 &&& 31))).toNatClampNeg) (vp_nar .boolean (1 : Int32)))))))))
def q_X0_markSetsWithoutNeighbours_L9 (near : Nat → Int32) (P0 : (Nat → Int32) → Prop) : Nat → Int32 → (Nat → Int32) → Prop
  | 0, _, _ => False
  | n + 1, x1, fits => (((10 : Int32) ≤ x1 → P0 fits) ∧ (¬ (10 : Int32) ≤ x1 → (∃ n5 : Nat, q_X0_markSetsWithoutNeighbours_L17 x1 near (fun (v6 : Nat → Int32) => q_X0_markSetsWithoutNeighbours_L9 near P0 n (x1 + (1 : Int32)) v6) n5 (0 : Int32) fits)))
def q_X0_markSetsWithoutNeighbours (near : Nat → Int32) (fits : Nat → Int32) (P : (Nat → Int32) → Prop) : Prop := xin (0 : Int32) 1024 = true ∧ (∃ n7 : Nat, q_X0_markSetsWithoutNeighbours_L9 near (fun (v8 : Nat → Int32) => P v8) n7 (0 : Int32) (upd fits ((0 : Int32).toNatClampNeg) (vp_nar .boolean (1 : Int32))))
set_option maxHeartbeats 4000000 in
set_option maxRecDepth 100000 in
theorem w_X0_markSetsWithoutNeighbours_L17 {X : xC} {l : Launch} {D : va_G} {cI cJ cZ cA : ClassId} {V : Nat → Nat} (K : xk X l rm_X0_markSetsWithoutNeighbours D vwCl (xtys cI cJ cZ cA) cX0_markSetsWithoutNeighbours RX0 wsX0_markSetsWithoutNeighbours 3) (u1 : Int32) (land : Nat → Int64) (there : Int32) (near : Nat → Int32) (worn : Nat → Int32) (trial : Nat → Int32) (ways : Nat → Int64) (P0 : (Nat → Int32) → Prop) : ∀ (n : Nat) (x2 : Int32) (fits : Nat → Int32), q_X0_markSetsWithoutNeighbours_L17 u1 near P0 n x2 fits → (∀ (z0 : Nat → Int32), P0 z0 → xw X 0 0 65 [(0, .ref (V 0)), (1, .int u1)] [] (wX0 cI cJ cZ cA V land there near worn trial z0 ways)) → xw X 0 0 17 [(0, .ref (V 0)), (1, .int u1), (2, .int x2)] [] (wX0 cI cJ cZ cA V land there near worn trial fits ways) := by
  intro n
  induction n with
  | zero =>
    intro x2 fits h
    rw [q_X0_markSetsWithoutNeighbours_L17] at h
    exact h.elim
  | succ n ih =>
    intro x2 fits h k0
    rw [q_X0_markSetsWithoutNeighbours_L17] at h
    refine x_iload_n (pc := 17) K dX0_markSetsWithoutNeighbours_17 2 rfl rfl ?_
    refine x_iconst (v := (1)) (pc := 18) K dX0_markSetsWithoutNeighbours_18 (by decide) ?_
    refine x_iload_n (pc := 19) K dX0_markSetsWithoutNeighbours_19 1 rfl rfl ?_
    refine x_ishl (pc := 20) K dX0_markSetsWithoutNeighbours_20 ?_
    refine x_icmp_ge (pc := 21) K dX0_markSetsWithoutNeighbours_21 (tgt := 65) (by decide) (fun c9 => ?_) (fun c9 => ?_)
    · have h := h.1 c9
      refine x_keep [true, true, false] rfl ?_
      exact k0 fits h
    · have h := h.2 c9
      refine x_aload_n (pc := 24) K dX0_markSetsWithoutNeighbours_24 0 rfl rfl ?_
      refine x_get (pc := 25) (ci := 0) (C := RX0) (T := TX0) (N := 8) K (inX0_markSetsWithoutNeighbours) 0 rfl rfl 5 (by decide) kX0_markSetsWithoutNeighbours_0 rfl rfl dX0_markSetsWithoutNeighbours_25 ?_
      refine x_iload_n (pc := 28) K dX0_markSetsWithoutNeighbours_28 2 rfl rfl ?_
      refine x_iconst (v := (1)) (pc := 29) K dX0_markSetsWithoutNeighbours_29 (by decide) ?_
      refine x_iload_n (pc := 30) K dX0_markSetsWithoutNeighbours_30 1 rfl rfl ?_
      refine x_ishl (pc := 31) K dX0_markSetsWithoutNeighbours_31 ?_
      refine x_ior (pc := 32) K dX0_markSetsWithoutNeighbours_32 ?_
      refine x_aload_n (pc := 33) K dX0_markSetsWithoutNeighbours_33 0 rfl rfl ?_
      refine x_get (pc := 34) (ci := 0) (C := RX0) (T := TX0) (N := 8) K (inX0_markSetsWithoutNeighbours) 0 rfl rfl 5 (by decide) kX0_markSetsWithoutNeighbours_0 rfl rfl dX0_markSetsWithoutNeighbours_34 ?_
      refine x_iload_n (pc := 37) K dX0_markSetsWithoutNeighbours_37 2 rfl rfl ?_
      have g9 := h.1
      replace h := h.2
      refine x_zald (pc := 38) K 5 2 rfl rfl g9 dX0_markSetsWithoutNeighbours_38 ?_
      clear g9
      refine x_if_eq (pc := 39) K dX0_markSetsWithoutNeighbours_39 (tgt := 57) (by decide) (fun c9 => ?_) (fun c9 => ?_)
      · have h := h.1 c9
        refine x_iconst (v := (0)) (pc := 57) K dX0_markSetsWithoutNeighbours_57 (by decide) ?_
        have g9 := h.1
        replace h := h.2
        refine x_zast (ws' := (wX0 cI cJ cZ cA V land there near worn trial (upd fits ((x2 ||| ((1 : Int32) <<< (u1 &&& 31))).toNatClampNeg) (vp_nar .boolean (0 : Int32))) ways)) (pc := 58) K 5 2 rfl rfl rfl g9 dX0_markSetsWithoutNeighbours_58 ?_
        clear g9
        refine x_iinc (v := x2 + (1 : Int32)) (lv' := [(0, .ref (V 0)), (1, .int u1), (2, .int (x2 + (1 : Int32)))]) (pc := 59) K dX0_markSetsWithoutNeighbours_59 (k := 2) rfl rfl (by decide) rfl ?_
        refine x_goto (pc := 62) K dX0_markSetsWithoutNeighbours_62 (tgt := 17) (by decide) ?_
        exact ih (x2 + (1 : Int32)) (upd fits ((x2 ||| ((1 : Int32) <<< (u1 &&& 31))).toNatClampNeg) (vp_nar .boolean (0 : Int32))) h k0
      · have h := h.2 c9
        refine x_iload_n (pc := 42) K dX0_markSetsWithoutNeighbours_42 2 rfl rfl ?_
        refine x_aload_n (pc := 43) K dX0_markSetsWithoutNeighbours_43 0 rfl rfl ?_
        refine x_get (pc := 44) (ci := 0) (C := RX0) (T := TX0) (N := 8) K (inX0_markSetsWithoutNeighbours) 0 rfl rfl 2 (by decide) kX0_markSetsWithoutNeighbours_1 rfl rfl dX0_markSetsWithoutNeighbours_44 ?_
        refine x_iload_n (pc := 47) K dX0_markSetsWithoutNeighbours_47 1 rfl rfl ?_
        have g9 := h.1
        replace h := h.2
        refine x_iald (pc := 48) K 2 0 rfl rfl g9 dX0_markSetsWithoutNeighbours_48 ?_
        clear g9
        refine x_iand (pc := 49) K dX0_markSetsWithoutNeighbours_49 ?_
        refine x_if_ne (pc := 50) K dX0_markSetsWithoutNeighbours_50 (tgt := 57) (by decide) (fun c9 => ?_) (fun c9 => ?_)
        · have h := h.1 c9
          refine x_iconst (v := (0)) (pc := 57) K dX0_markSetsWithoutNeighbours_57 (by decide) ?_
          have g9 := h.1
          replace h := h.2
          refine x_zast (ws' := (wX0 cI cJ cZ cA V land there near worn trial (upd fits ((x2 ||| ((1 : Int32) <<< (u1 &&& 31))).toNatClampNeg) (vp_nar .boolean (0 : Int32))) ways)) (pc := 58) K 5 2 rfl rfl rfl g9 dX0_markSetsWithoutNeighbours_58 ?_
          clear g9
          refine x_iinc (v := x2 + (1 : Int32)) (lv' := [(0, .ref (V 0)), (1, .int u1), (2, .int (x2 + (1 : Int32)))]) (pc := 59) K dX0_markSetsWithoutNeighbours_59 (k := 2) rfl rfl (by decide) rfl ?_
          refine x_goto (pc := 62) K dX0_markSetsWithoutNeighbours_62 (tgt := 17) (by decide) ?_
          exact ih (x2 + (1 : Int32)) (upd fits ((x2 ||| ((1 : Int32) <<< (u1 &&& 31))).toNatClampNeg) (vp_nar .boolean (0 : Int32))) h k0
        · have h := h.2 c9
          refine x_iconst (v := (1)) (pc := 53) K dX0_markSetsWithoutNeighbours_53 (by decide) ?_
          refine x_goto (pc := 54) K dX0_markSetsWithoutNeighbours_54 (tgt := 58) (by decide) ?_
          have g9 := h.1
          replace h := h.2
          refine x_zast (ws' := (wX0 cI cJ cZ cA V land there near worn trial (upd fits ((x2 ||| ((1 : Int32) <<< (u1 &&& 31))).toNatClampNeg) (vp_nar .boolean (1 : Int32))) ways)) (pc := 58) K 5 2 rfl rfl rfl g9 dX0_markSetsWithoutNeighbours_58 ?_
          clear g9
          refine x_iinc (v := x2 + (1 : Int32)) (lv' := [(0, .ref (V 0)), (1, .int u1), (2, .int (x2 + (1 : Int32)))]) (pc := 59) K dX0_markSetsWithoutNeighbours_59 (k := 2) rfl rfl (by decide) rfl ?_
          refine x_goto (pc := 62) K dX0_markSetsWithoutNeighbours_62 (tgt := 17) (by decide) ?_
          exact ih (x2 + (1 : Int32)) (upd fits ((x2 ||| ((1 : Int32) <<< (u1 &&& 31))).toNatClampNeg) (vp_nar .boolean (1 : Int32))) h k0
set_option maxHeartbeats 4000000 in
set_option maxRecDepth 100000 in
theorem w_X0_markSetsWithoutNeighbours_L9 {X : xC} {l : Launch} {D : va_G} {cI cJ cZ cA : ClassId} {V : Nat → Nat} (K : xk X l rm_X0_markSetsWithoutNeighbours D vwCl (xtys cI cJ cZ cA) cX0_markSetsWithoutNeighbours RX0 wsX0_markSetsWithoutNeighbours 3) (land : Nat → Int64) (there : Int32) (near : Nat → Int32) (worn : Nat → Int32) (trial : Nat → Int32) (ways : Nat → Int64) (P0 : (Nat → Int32) → Prop) : ∀ (n : Nat) (x1 : Int32) (fits : Nat → Int32), q_X0_markSetsWithoutNeighbours_L9 near P0 n x1 fits → (∀ (z0 : Nat → Int32), P0 z0 → xw X 0 0 71 [] [] (wX0 cI cJ cZ cA V land there near worn trial z0 ways)) → xw X 0 0 9 [(0, .ref (V 0)), (1, .int x1)] [] (wX0 cI cJ cZ cA V land there near worn trial fits ways) := by
  intro n
  induction n with
  | zero =>
    intro x1 fits h
    rw [q_X0_markSetsWithoutNeighbours_L9] at h
    exact h.elim
  | succ n ih =>
    intro x1 fits h k0
    rw [q_X0_markSetsWithoutNeighbours_L9] at h
    refine x_iload_n (pc := 9) K dX0_markSetsWithoutNeighbours_9 1 rfl rfl ?_
    refine x_bipush (v := (10)) (pc := 10) K dX0_markSetsWithoutNeighbours_10 (by decide) ?_
    refine x_icmp_ge (pc := 12) K dX0_markSetsWithoutNeighbours_12 (tgt := 71) (by decide) (fun c9 => ?_) (fun c9 => ?_)
    · have h := h.1 c9
      refine x_keep [false, false] rfl ?_
      exact k0 fits h
    · have h := h.2 c9
      refine x_iconst (v := (0)) (pc := 15) K dX0_markSetsWithoutNeighbours_15 (by decide) ?_
      refine x_istore_n (lv' := [(0, .ref (V 0)), (1, .int x1), (2, .int (0 : Int32))]) (pc := 16) K dX0_markSetsWithoutNeighbours_16 rfl (by decide) rfl ?_
      obtain ⟨n5, h⟩ := h
      refine w_X0_markSetsWithoutNeighbours_L17 K x1 land there near worn trial ways _ n5 (0 : Int32) fits h (fun v6 h => ?_)
      refine x_iinc (v := x1 + (1 : Int32)) (lv' := [(0, .ref (V 0)), (1, .int (x1 + (1 : Int32)))]) (pc := 65) K dX0_markSetsWithoutNeighbours_65 (k := 1) rfl rfl (by decide) rfl ?_
      refine x_goto (pc := 68) K dX0_markSetsWithoutNeighbours_68 (tgt := 9) (by decide) ?_
      exact ih (x1 + (1 : Int32)) v6 h k0
set_option maxHeartbeats 4000000 in
set_option maxRecDepth 100000 in
theorem c_X0_markSetsWithoutNeighbours (l : Launch) (D : va_G) (cI cJ cZ cA : ClassId) (V : Nat → Nat) (land : Nat → Int64) (there : Int32) (near : Nat → Int32) (worn : Nat → Int32) (trial : Nat → Int32) (fits : Nat → Int32) (ways : Nat → Int64) (P : (Nat → Int32) → Prop) (h : q_X0_markSetsWithoutNeighbours near fits P) : xMv l yX0_markSetsWithoutNeighbours wsX0_markSetsWithoutNeighbours rm_X0_markSetsWithoutNeighbours D vwCl (xtys cI cJ cZ cA) (wX0 cI cJ cZ cA V land there near worn trial fits ways) [.ref (V 0)] (σ := (Nat → Int32)) (fun u => (wX0 cI cJ cZ cA V land there near worn trial u ways)) (fun u => P u) := by
  refine xMv_of (cc := cX0_markSetsWithoutNeighbours) (maxL := 3) (by decide) rfl (Nat.le_of_ble_eq_true rfl) ?_
  intro X K hE
  have K : xk X l rm_X0_markSetsWithoutNeighbours D vwCl (xtys cI cJ cZ cA) cX0_markSetsWithoutNeighbours RX0 wsX0_markSetsWithoutNeighbours 3 := K
  unfold q_X0_markSetsWithoutNeighbours at h
  refine x_aload_n (pc := 0) K dX0_markSetsWithoutNeighbours_0 0 rfl rfl ?_
  refine x_get (pc := 1) (ci := 0) (C := RX0) (T := TX0) (N := 8) K (inX0_markSetsWithoutNeighbours) 0 rfl rfl 5 (by decide) kX0_markSetsWithoutNeighbours_0 rfl rfl dX0_markSetsWithoutNeighbours_1 ?_
  refine x_iconst (v := (0)) (pc := 4) K dX0_markSetsWithoutNeighbours_4 (by decide) ?_
  refine x_iconst (v := (1)) (pc := 5) K dX0_markSetsWithoutNeighbours_5 (by decide) ?_
  have g9 := h.1
  replace h := h.2
  refine x_zast (ws' := (wX0 cI cJ cZ cA V land there near worn trial (upd fits ((0 : Int32).toNatClampNeg) (vp_nar .boolean (1 : Int32))) ways)) (pc := 6) K 5 2 rfl rfl rfl g9 dX0_markSetsWithoutNeighbours_6 ?_
  clear g9
  refine x_iconst (v := (0)) (pc := 7) K dX0_markSetsWithoutNeighbours_7 (by decide) ?_
  refine x_istore_n (lv' := [(0, .ref (V 0)), (1, .int (0 : Int32))]) (pc := 8) K dX0_markSetsWithoutNeighbours_8 rfl (by decide) rfl ?_
  obtain ⟨n7, h⟩ := h
  refine w_X0_markSetsWithoutNeighbours_L9 K land there near worn trial ways _ n7 (0 : Int32) (upd fits ((0 : Int32).toNatClampNeg) (vp_nar .boolean (1 : Int32))) h (fun v8 h => ?_)
  exact hE v8 _ _ h dX0_markSetsWithoutNeighbours_71
abbrev rm_X0_shareOutFrom : Room := { frames := 8, cells := 0, slots := 0, locals := 120 }
theorem inX0_shareOutFrom : ∀ w ∈ u_ws RX0 TX0 8, w ∈ wsX0_shareOutFrom := by decide +kernel
theorem kX0_shareOutFrom_0 : Cond.fieldLink RX0 27 "FourTints" "fits" "[Z" ∈ wsX0_shareOutFrom := by decide +kernel
theorem kX0_shareOutFrom_1 : Cond.fieldLink RX0 31 "FourTints" "ways" "[J" ∈ wsX0_shareOutFrom := by decide +kernel
def q_X0_shareOutFrom_L21 (u2 : Int64) (u4 : Int32) (u5 : Int32) (fits : Nat → Int32) (P0 : (Nat → Int64) → Prop) (P1 : (Nat → Int64) → Prop) : Nat → Int32 → Int32 → (Nat → Int64) → Prop
  | 0, _, _, _ => False
  | n + 1, x6, x7, ways => (((1024 : Int32) ≤ x7 → P0 ways) ∧ (¬ (1024 : Int32) ≤ x7 → xin (u4 ||| x6) 1024 = true ∧ xj1 (fun (v4 : Nat → Int64) => ((¬ x6 = (0 : Int32) → xl ((x6 - (1 : Int32)) &&& u5) (fun y5 => q_X0_shareOutFrom_L21 u2 u4 u5 fits P0 P1 n y5 (x7 + (1 : Int32)) v4)) ∧ (x6 = (0 : Int32) → P1 v4))) (fun (J3 : (Nat → Int64) → Prop) => (((fits (u4 ||| x6).toNatClampNeg) = (0 : Int32) → J3 ways) ∧ (¬ (fits (u4 ||| x6).toNatClampNeg) = (0 : Int32) → xin (u5 &&& (x6 ^^^ (-1 : Int32))) 1024 = true ∧ xin (u5 &&& (x6 ^^^ (-1 : Int32))) 1024 = true ∧ J3 (vp_updL ways ((u5 &&& (x6 ^^^ (-1 : Int32))).toNatClampNeg) ((ways (u5 &&& (x6 ^^^ (-1 : Int32))).toNatClampNeg) + u2)))))))
def q_X0_shareOutFrom (p1 : Int32) (p2 : Int64) (fits : Nat → Int32) (ways : Nat → Int64) (P : (Nat → Int64) → Prop) : Prop := xl (p1 &&& (-p1)) (fun y1 => xl (p1 &&& (y1 ^^^ (-1 : Int32))) (fun y2 => (∃ n7 : Nat, q_X0_shareOutFrom_L21 p2 y1 y2 fits (fun (v8 : Nat → Int64) => P v8) (fun (v9 : Nat → Int64) => P v9) n7 y2 (0 : Int32) ways)))
set_option maxHeartbeats 4000000 in
set_option maxRecDepth 100000 in
theorem w_X0_shareOutFrom_L21 {X : xC} {l : Launch} {D : va_G} {cI cJ cZ cA : ClassId} {V : Nat → Nat} (K : xk X l rm_X0_shareOutFrom D vwCl (xtys cI cJ cZ cA) cX0_shareOutFrom RX0 wsX0_shareOutFrom 8) (u2 : Int64) (u4 : Int32) (u5 : Int32) (land : Nat → Int64) (there : Int32) (near : Nat → Int32) (worn : Nat → Int32) (trial : Nat → Int32) (fits : Nat → Int32) (P0 : (Nat → Int64) → Prop) (P1 : (Nat → Int64) → Prop) : ∀ (n : Nat) (x6 : Int32) (x7 : Int32) (ways : Nat → Int64), q_X0_shareOutFrom_L21 u2 u4 u5 fits P0 P1 n x6 x7 ways → (∀ (z0 : Nat → Int64), P0 z0 → xw X 0 0 79 [] [] (wX0 cI cJ cZ cA V land there near worn trial fits z0)) → (∀ (z0 : Nat → Int64), P1 z0 → xw X 0 0 63 [] [] (wX0 cI cJ cZ cA V land there near worn trial fits z0)) → xw X 0 0 21 [(0, .ref (V 0)), (2, .long u2), (4, .int u4), (5, .int u5), (6, .int x6), (7, .int x7)] [] (wX0 cI cJ cZ cA V land there near worn trial fits ways) := by
  intro n
  induction n with
  | zero =>
    intro x6 x7 ways h
    rw [q_X0_shareOutFrom_L21] at h
    exact h.elim
  | succ n ih =>
    intro x6 x7 ways h k0 k1
    rw [q_X0_shareOutFrom_L21] at h
    refine x_iload (pc := 21) K dX0_shareOutFrom_21 5 rfl ?_
    refine x_sipush (v := (1024)) (pc := 23) K dX0_shareOutFrom_23 (by decide) ?_
    refine x_icmp_ge (pc := 26) K dX0_shareOutFrom_26 (tgt := 79) (by decide) (fun c9 => ?_) (fun c9 => ?_)
    · have h := h.1 c9
      refine x_keep [false, false, false, false, false, false] rfl ?_
      exact k0 ways h
    · have h := h.2 c9
      refine x_aload_n (pc := 29) K dX0_shareOutFrom_29 0 rfl rfl ?_
      refine x_get (pc := 30) (ci := 0) (C := RX0) (T := TX0) (N := 8) K (inX0_shareOutFrom) 0 rfl rfl 5 (by decide) kX0_shareOutFrom_0 rfl rfl dX0_shareOutFrom_30 ?_
      refine x_iload (pc := 33) K dX0_shareOutFrom_33 2 rfl ?_
      refine x_iload (pc := 35) K dX0_shareOutFrom_35 4 rfl ?_
      refine x_ior (pc := 37) K dX0_shareOutFrom_37 ?_
      have g9 := h.1
      replace h := h.2
      refine x_zald (pc := 38) K 5 2 rfl rfl g9 dX0_shareOutFrom_38 ?_
      clear g9
      obtain ⟨J3, hJ3, h⟩ := xj1_o h
      have kJ3 : ∀ (v4 : Nat → Int64), J3 v4 → xw X 0 0 58 [(0, .ref (V 0)), (2, .long u2), (4, .int u4), (5, .int u5), (6, .int x6), (7, .int x7)] [] (wX0 cI cJ cZ cA V land there near worn trial fits v4) := by
        intro v4 hj
        have h := hJ3 v4 hj
        refine x_iload (pc := 58) K dX0_shareOutFrom_58 4 rfl ?_
        refine x_if_ne (pc := 60) K dX0_shareOutFrom_60 (tgt := 64) (by decide) (fun c9 => ?_) (fun c9 => ?_)
        · have h := h.1 c9
          refine x_iload (pc := 64) K dX0_shareOutFrom_64 4 rfl ?_
          refine x_iconst (v := (1)) (pc := 66) K dX0_shareOutFrom_66 (by decide) ?_
          refine x_isub (pc := 67) K dX0_shareOutFrom_67 ?_
          refine x_iload (pc := 68) K dX0_shareOutFrom_68 3 rfl ?_
          refine x_iand (pc := 70) K dX0_shareOutFrom_70 ?_
          obtain ⟨y5, ey5, h⟩ := xl_o h
          refine x_topi ey5 ?_
          clear ey5
          refine x_istore (lv' := [(0, .ref (V 0)), (2, .long u2), (4, .int u4), (5, .int u5), (6, .int y5), (7, .int x7)]) (pc := 71) K dX0_shareOutFrom_71 (by decide) rfl ?_
          refine x_iinc (v := x7 + (1 : Int32)) (lv' := [(0, .ref (V 0)), (2, .long u2), (4, .int u4), (5, .int u5), (6, .int y5), (7, .int (x7 + (1 : Int32)))]) (pc := 73) K dX0_shareOutFrom_73 (k := 5) rfl rfl (by decide) rfl ?_
          refine x_goto (pc := 76) K dX0_shareOutFrom_76 (tgt := 21) (by decide) ?_
          exact ih y5 (x7 + (1 : Int32)) v4 h k0 k1
        · have h := h.2 c9
          refine x_keep [false, false, false, false, false, false] rfl ?_
          exact k1 v4 h
      refine x_if_eq (pc := 39) K dX0_shareOutFrom_39 (tgt := 58) (by decide) (fun c9 => ?_) (fun c9 => ?_)
      · have h := h.1 c9
        exact kJ3 ways h
      · have h := h.2 c9
        refine x_aload_n (pc := 42) K dX0_shareOutFrom_42 0 rfl rfl ?_
        refine x_get (pc := 43) (ci := 0) (C := RX0) (T := TX0) (N := 8) K (inX0_shareOutFrom) 0 rfl rfl 6 (by decide) kX0_shareOutFrom_1 rfl rfl dX0_shareOutFrom_43 ?_
        refine x_iload (pc := 46) K dX0_shareOutFrom_46 3 rfl ?_
        refine x_iload (pc := 48) K dX0_shareOutFrom_48 4 rfl ?_
        refine x_iconst (v := (-1)) (pc := 50) K dX0_shareOutFrom_50 (by decide) ?_
        refine x_ixor (pc := 51) K dX0_shareOutFrom_51 ?_
        refine x_iand (pc := 52) K dX0_shareOutFrom_52 ?_
        refine x_dup2 (pc := 53) K dX0_shareOutFrom_53 rfl rfl ?_
        have g9 := h.1
        replace h := h.2
        refine x_lald (pc := 54) K 6 1 rfl rfl g9 dX0_shareOutFrom_54 ?_
        clear g9
        refine x_lload_n (pc := 55) K dX0_shareOutFrom_55 1 rfl rfl ?_
        refine x_ladd (pc := 56) K dX0_shareOutFrom_56 ?_
        have g9 := h.1
        replace h := h.2
        refine x_last (ws' := (wX0 cI cJ cZ cA V land there near worn trial fits (vp_updL ways ((u5 &&& (x6 ^^^ (-1 : Int32))).toNatClampNeg) ((ways (u5 &&& (x6 ^^^ (-1 : Int32))).toNatClampNeg) + u2)))) (pc := 57) K 6 1 rfl rfl rfl g9 dX0_shareOutFrom_57 ?_
        clear g9
        exact kJ3 (vp_updL ways ((u5 &&& (x6 ^^^ (-1 : Int32))).toNatClampNeg) ((ways (u5 &&& (x6 ^^^ (-1 : Int32))).toNatClampNeg) + u2)) h
set_option maxHeartbeats 4000000 in
set_option maxRecDepth 100000 in
theorem c_X0_shareOutFrom (l : Launch) (D : va_G) (cI cJ cZ cA : ClassId) (V : Nat → Nat) (p1 : Int32) (p2 : Int64) (land : Nat → Int64) (there : Int32) (near : Nat → Int32) (worn : Nat → Int32) (trial : Nat → Int32) (fits : Nat → Int32) (ways : Nat → Int64) (P : (Nat → Int64) → Prop) (h : q_X0_shareOutFrom p1 p2 fits ways P) : xMv l yX0_shareOutFrom wsX0_shareOutFrom rm_X0_shareOutFrom D vwCl (xtys cI cJ cZ cA) (wX0 cI cJ cZ cA V land there near worn trial fits ways) [.ref (V 0), .int p1, .long p2] (σ := (Nat → Int64)) (fun u => (wX0 cI cJ cZ cA V land there near worn trial fits u)) (fun u => P u) := by
  refine xMv_of (cc := cX0_shareOutFrom) (maxL := 8) (by decide) rfl (Nat.le_of_ble_eq_true rfl) ?_
  intro X K hE
  have K : xk X l rm_X0_shareOutFrom D vwCl (xtys cI cJ cZ cA) cX0_shareOutFrom RX0 wsX0_shareOutFrom 8 := K
  unfold q_X0_shareOutFrom at h
  refine x_iload_n (pc := 0) K dX0_shareOutFrom_0 1 rfl rfl ?_
  refine x_iload_n (pc := 1) K dX0_shareOutFrom_1 1 rfl rfl ?_
  refine x_ineg (pc := 2) K dX0_shareOutFrom_2 ?_
  refine x_iand (pc := 3) K dX0_shareOutFrom_3 ?_
  obtain ⟨y1, ey1, h⟩ := xl_o h
  refine x_topi ey1 ?_
  clear ey1
  refine x_istore (lv' := [(0, .ref (V 0)), (1, .int p1), (2, .long p2), (4, .int y1)]) (pc := 4) K dX0_shareOutFrom_4 (by decide) rfl ?_
  refine x_iload_n (pc := 6) K dX0_shareOutFrom_6 1 rfl rfl ?_
  refine x_iload (pc := 7) K dX0_shareOutFrom_7 3 rfl ?_
  refine x_iconst (v := (-1)) (pc := 9) K dX0_shareOutFrom_9 (by decide) ?_
  refine x_ixor (pc := 10) K dX0_shareOutFrom_10 ?_
  refine x_iand (pc := 11) K dX0_shareOutFrom_11 ?_
  obtain ⟨y2, ey2, h⟩ := xl_o h
  refine x_topi ey2 ?_
  clear ey2
  refine x_istore (lv' := [(0, .ref (V 0)), (1, .int p1), (2, .long p2), (4, .int y1), (5, .int y2)]) (pc := 12) K dX0_shareOutFrom_12 (by decide) rfl ?_
  refine x_iload (pc := 14) K dX0_shareOutFrom_14 4 rfl ?_
  refine x_istore (lv' := [(0, .ref (V 0)), (1, .int p1), (2, .long p2), (4, .int y1), (5, .int y2), (6, .int y2)]) (pc := 16) K dX0_shareOutFrom_16 (by decide) rfl ?_
  refine x_iconst (v := (0)) (pc := 18) K dX0_shareOutFrom_18 (by decide) ?_
  refine x_istore (lv' := [(0, .ref (V 0)), (1, .int p1), (2, .long p2), (4, .int y1), (5, .int y2), (6, .int y2), (7, .int (0 : Int32))]) (pc := 19) K dX0_shareOutFrom_19 (by decide) rfl ?_
  refine x_keep [true, false, true, true, true, true, true] rfl ?_
  obtain ⟨n7, h⟩ := h
  refine w_X0_shareOutFrom_L21 K p2 y1 y2 land there near worn trial fits _ _ n7 y2 (0 : Int32) ways h (fun v8 h => ?_) (fun v9 h => ?_)
  · exact hE v8 _ _ h dX0_shareOutFrom_79
  · exact hE v9 _ _ h dX0_shareOutFrom_63
abbrev rm_X0_shareOutOneSet : Room := { frames := 9, cells := 0, slots := 0, locals := 160 }
theorem inX0_shareOutOneSet : ∀ w ∈ u_ws RX0 TX0 8, w ∈ wsX0_shareOutOneSet := by decide +kernel
theorem kX0_shareOutOneSet_0 : Cond.fieldLink RX0 31 "FourTints" "ways" "[J" ∈ wsX0_shareOutOneSet := by decide +kernel
def q_X0_shareOutOneSet_L9 (fits : Nat → Int32) (P0 : (Nat → Int64) → Prop) : Nat → Int32 → (Nat → Int64) → Prop
  | 0, _, _ => False
  | n + 1, x1, ways => (((1024 : Int32) ≤ x1 → P0 ways) ∧ (¬ (1024 : Int32) ≤ x1 → xin x1 1024 = true ∧ xl (ways x1.toNatClampNeg) (fun y2 => (((lg_cmp y2 (0 : Int64)) = (0 : Int32) → q_X0_shareOutOneSet_L9 fits P0 n (x1 + (1 : Int32)) ways) ∧ (¬ (lg_cmp y2 (0 : Int64)) = (0 : Int32) → xin x1 1024 = true ∧ q_X0_shareOutFrom x1 y2 fits (vp_updL ways x1.toNatClampNeg (0 : Int64)) (fun (ways_4 : Nat → Int64) => q_X0_shareOutOneSet_L9 fits P0 n (x1 + (1 : Int32)) ways_4))))))
def q_X0_shareOutOneSet (fits : Nat → Int32) (ways : Nat → Int64) (P : (Nat → Int64) → Prop) : Prop := xin (0 : Int32) 1024 = true ∧ (∃ n5 : Nat, q_X0_shareOutOneSet_L9 fits (fun (v6 : Nat → Int64) => P v6) n5 (1 : Int32) (vp_updL ways ((0 : Int32).toNatClampNeg) (0 : Int64)))
set_option maxHeartbeats 4000000 in
set_option maxRecDepth 100000 in
theorem w_X0_shareOutOneSet_L9 {X : xC} {l : Launch} {D : va_G} {cI cJ cZ cA : ClassId} {V : Nat → Nat} (K : xk X l rm_X0_shareOutOneSet D vwCl (xtys cI cJ cZ cA) cX0_shareOutOneSet RX0 wsX0_shareOutOneSet 4) (land : Nat → Int64) (there : Int32) (near : Nat → Int32) (worn : Nat → Int32) (trial : Nat → Int32) (fits : Nat → Int32) (P0 : (Nat → Int64) → Prop) : ∀ (n : Nat) (x1 : Int32) (ways : Nat → Int64), q_X0_shareOutOneSet_L9 fits P0 n x1 ways → (∀ (z0 : Nat → Int64), P0 z0 → xw X 0 0 48 [] [] (wX0 cI cJ cZ cA V land there near worn trial fits z0)) → xw X 0 0 9 [(0, .ref (V 0)), (1, .int x1)] [] (wX0 cI cJ cZ cA V land there near worn trial fits ways) := by
  intro n
  induction n with
  | zero =>
    intro x1 ways h
    rw [q_X0_shareOutOneSet_L9] at h
    exact h.elim
  | succ n ih =>
    intro x1 ways h k0
    rw [q_X0_shareOutOneSet_L9] at h
    refine x_iload_n (pc := 9) K dX0_shareOutOneSet_9 1 rfl rfl ?_
    refine x_sipush (v := (1024)) (pc := 10) K dX0_shareOutOneSet_10 (by decide) ?_
    refine x_icmp_ge (pc := 13) K dX0_shareOutOneSet_13 (tgt := 48) (by decide) (fun c9 => ?_) (fun c9 => ?_)
    · have h := h.1 c9
      refine x_keep [false, false] rfl ?_
      exact k0 ways h
    · have h := h.2 c9
      refine x_aload_n (pc := 16) K dX0_shareOutOneSet_16 0 rfl rfl ?_
      refine x_get (pc := 17) (ci := 0) (C := RX0) (T := TX0) (N := 8) K (inX0_shareOutOneSet) 0 rfl rfl 6 (by decide) kX0_shareOutOneSet_0 rfl rfl dX0_shareOutOneSet_17 ?_
      refine x_iload_n (pc := 20) K dX0_shareOutOneSet_20 1 rfl rfl ?_
      have g9 := h.1
      replace h := h.2
      refine x_lald (pc := 21) K 6 1 rfl rfl g9 dX0_shareOutOneSet_21 ?_
      clear g9
      obtain ⟨y2, ey2, h⟩ := xl_o h
      refine x_topl ey2 ?_
      clear ey2
      refine x_lstore_n (lv' := [(0, .ref (V 0)), (1, .int x1), (2, .long y2)]) (pc := 22) K dX0_shareOutOneSet_22 rfl (by decide) rfl ?_
      refine x_lload_n (pc := 23) K dX0_shareOutOneSet_23 2 rfl rfl ?_
      refine x_lconst (v := (0)) (pc := 24) K dX0_shareOutOneSet_24 (by decide) ?_
      refine x_lcmp (pc := 25) K dX0_shareOutOneSet_25 ?_
      refine x_if_eq (pc := 26) K dX0_shareOutOneSet_26 (tgt := 42) (by decide) (fun c9 => ?_) (fun c9 => ?_)
      · have h := h.1 c9
        refine x_keep [true, true, false] rfl ?_
        refine x_iinc (v := x1 + (1 : Int32)) (lv' := [(0, .ref (V 0)), (1, .int (x1 + (1 : Int32)))]) (pc := 42) K dX0_shareOutOneSet_42 (k := 1) rfl rfl (by decide) rfl ?_
        refine x_goto (pc := 45) K dX0_shareOutOneSet_45 (tgt := 9) (by decide) ?_
        exact ih (x1 + (1 : Int32)) ways h k0
      · have h := h.2 c9
        refine x_aload_n (pc := 29) K dX0_shareOutOneSet_29 0 rfl rfl ?_
        refine x_get (pc := 30) (ci := 0) (C := RX0) (T := TX0) (N := 8) K (inX0_shareOutOneSet) 0 rfl rfl 6 (by decide) kX0_shareOutOneSet_0 rfl rfl dX0_shareOutOneSet_30 ?_
        refine x_iload_n (pc := 33) K dX0_shareOutOneSet_33 1 rfl rfl ?_
        refine x_lconst (v := (0)) (pc := 34) K dX0_shareOutOneSet_34 (by decide) ?_
        have g9 := h.1
        replace h := h.2
        refine x_last (ws' := (wX0 cI cJ cZ cA V land there near worn trial fits (vp_updL ways x1.toNatClampNeg (0 : Int64)))) (pc := 35) K 6 1 rfl rfl rfl g9 dX0_shareOutOneSet_35 ?_
        clear g9
        refine x_aload_n (pc := 36) K dX0_shareOutOneSet_36 0 rfl rfl ?_
        refine x_iload_n (pc := 37) K dX0_shareOutOneSet_37 1 rfl rfl ?_
        refine x_lload_n (pc := 38) K dX0_shareOutOneSet_38 2 rfl rfl ?_
        refine x_callVv (pc := 39) (n := 2) K (c_X0_shareOutFrom l D cI cJ cZ cA V x1 y2 land there near worn trial fits (vp_updL ways x1.toNatClampNeg (0 : Int64)) _ h) rfl rfl gX0_shareOutOneSet_X0_shareOutFrom rfl (by decide +kernel) ⟨Nat.le_of_ble_eq_true rfl, Nat.le_of_ble_eq_true rfl⟩ rfl (av := [.int x1, .long y2]) (b := V 0) (ci := 0) (q0 := 0) rfl rfl rfl (Nat.le_of_ble_eq_true rfl) [0, 1, 2, 3, 4, 5, 6] [] (wr := []) rfl rfl rfl rfl (by decide) dX0_shareOutOneSet_39 ⟨Nat.le_of_ble_eq_true rfl, Nat.le_of_ble_eq_true rfl⟩ (fun ways_4 h => ?_)
        refine x_ws (ws' := (wX0 cI cJ cZ cA V land there near worn trial fits ways_4)) rfl ?_
        refine x_keep [true, true, false] rfl ?_
        refine x_iinc (v := x1 + (1 : Int32)) (lv' := [(0, .ref (V 0)), (1, .int (x1 + (1 : Int32)))]) (pc := 42) K dX0_shareOutOneSet_42 (k := 1) rfl rfl (by decide) rfl ?_
        refine x_goto (pc := 45) K dX0_shareOutOneSet_45 (tgt := 9) (by decide) ?_
        exact ih (x1 + (1 : Int32)) ways_4 h k0
set_option maxHeartbeats 4000000 in
set_option maxRecDepth 100000 in
theorem c_X0_shareOutOneSet (l : Launch) (D : va_G) (cI cJ cZ cA : ClassId) (V : Nat → Nat) (land : Nat → Int64) (there : Int32) (near : Nat → Int32) (worn : Nat → Int32) (trial : Nat → Int32) (fits : Nat → Int32) (ways : Nat → Int64) (P : (Nat → Int64) → Prop) (h : q_X0_shareOutOneSet fits ways P) : xMv l yX0_shareOutOneSet wsX0_shareOutOneSet rm_X0_shareOutOneSet D vwCl (xtys cI cJ cZ cA) (wX0 cI cJ cZ cA V land there near worn trial fits ways) [.ref (V 0)] (σ := (Nat → Int64)) (fun u => (wX0 cI cJ cZ cA V land there near worn trial fits u)) (fun u => P u) := by
  refine xMv_of (cc := cX0_shareOutOneSet) (maxL := 4) (by decide) rfl (Nat.le_of_ble_eq_true rfl) ?_
  intro X K hE
  have K : xk X l rm_X0_shareOutOneSet D vwCl (xtys cI cJ cZ cA) cX0_shareOutOneSet RX0 wsX0_shareOutOneSet 4 := K
  unfold q_X0_shareOutOneSet at h
  refine x_aload_n (pc := 0) K dX0_shareOutOneSet_0 0 rfl rfl ?_
  refine x_get (pc := 1) (ci := 0) (C := RX0) (T := TX0) (N := 8) K (inX0_shareOutOneSet) 0 rfl rfl 6 (by decide) kX0_shareOutOneSet_0 rfl rfl dX0_shareOutOneSet_1 ?_
  refine x_iconst (v := (0)) (pc := 4) K dX0_shareOutOneSet_4 (by decide) ?_
  refine x_lconst (v := (0)) (pc := 5) K dX0_shareOutOneSet_5 (by decide) ?_
  have g9 := h.1
  replace h := h.2
  refine x_last (ws' := (wX0 cI cJ cZ cA V land there near worn trial fits (vp_updL ways ((0 : Int32).toNatClampNeg) (0 : Int64)))) (pc := 6) K 6 1 rfl rfl rfl g9 dX0_shareOutOneSet_6 ?_
  clear g9
  refine x_iconst (v := (1)) (pc := 7) K dX0_shareOutOneSet_7 (by decide) ?_
  refine x_istore_n (lv' := [(0, .ref (V 0)), (1, .int (1 : Int32))]) (pc := 8) K dX0_shareOutOneSet_8 rfl (by decide) rfl ?_
  obtain ⟨n5, h⟩ := h
  refine w_X0_shareOutOneSet_L9 K land there near worn trial fits _ n5 (1 : Int32) (vp_updL ways ((0 : Int32).toNatClampNeg) (0 : Int64)) h (fun v6 h => ?_)
  exact hE v6 _ _ h dX0_shareOutOneSet_48
abbrev rm_X0_isFreeIn : Room := { frames := 9, cells := 0, slots := 0, locals := 160 }
def q_X0_isFreeIn_L3 (u1 : Int32) (u2 : Int32) (u3 : Int32) (trial : Nat → Int32) (P0 : Prop) (P1 : Prop) : Nat → Int32 → Prop
  | 0, _ => False
  | n + 1, x4 => ((u1 ≤ x4 → P0) ∧ (¬ u1 ≤ x4 → q_X0_has u2 x4 (fun (r1 : Int32) => ((r1 = (0 : Int32) → q_X0_isFreeIn_L3 u1 u2 u3 trial P0 P1 n (x4 + (1 : Int32))) ∧ (¬ r1 = (0 : Int32) → xin x4 10 = true ∧ ((¬ (trial x4.toNatClampNeg) = u3 → q_X0_isFreeIn_L3 u1 u2 u3 trial P0 P1 n (x4 + (1 : Int32))) ∧ ((trial x4.toNatClampNeg) = u3 → P1)))))))
def q_X0_isFreeIn (p1 : Int32) (p2 : Int32) (p3 : Int32) (trial : Nat → Int32) (P : Int32 → Prop) : Prop := (∃ n2 : Nat, q_X0_isFreeIn_L3 p1 p2 p3 trial ((xbool (1 : Int32) ∧ P (1 : Int32))) ((xbool (0 : Int32) ∧ P (0 : Int32))) n2 (0 : Int32))
set_option maxHeartbeats 4000000 in
set_option maxRecDepth 100000 in
theorem w_X0_isFreeIn_L3 {X : xC} {l : Launch} {D : va_G} {cI cJ cZ cA : ClassId} {a_trial : Nat} (K : xk X l rm_X0_isFreeIn D vwCl (xtys cI cJ cZ cA) cX0_isFreeIn RX0 wsX0_isFreeIn 5) (u1 : Int32) (u2 : Int32) (u3 : Int32) (trial : Nat → Int32) (P0 : Prop) (P1 : Prop) : ∀ (n : Nat) (x4 : Int32), q_X0_isFreeIn_L3 u1 u2 u3 trial P0 P1 n x4 → (P0 → xw X 0 0 34 [] [] [(a_trial, .inl (cI, 10, .inl trial))]) → (P1 → xw X 0 0 26 [] [] [(a_trial, .inl (cI, 10, .inl trial))]) → xw X 0 0 3 [(0, .ref a_trial), (1, .int u1), (2, .int u2), (3, .int u3), (4, .int x4)] [] [(a_trial, .inl (cI, 10, .inl trial))] := by
  intro n
  induction n with
  | zero =>
    intro x4 h
    rw [q_X0_isFreeIn_L3] at h
    exact h.elim
  | succ n ih =>
    intro x4 h k0 k1
    rw [q_X0_isFreeIn_L3] at h
    refine x_iload (pc := 3) K dX0_isFreeIn_3 4 rfl ?_
    refine x_iload_n (pc := 5) K dX0_isFreeIn_5 1 rfl rfl ?_
    refine x_icmp_ge (pc := 6) K dX0_isFreeIn_6 (tgt := 34) (by decide) (fun c9 => ?_) (fun c9 => ?_)
    · have h := h.1 c9
      refine x_keep [false, false, false, false, false] rfl ?_
      exact k0  h
    · have h := h.2 c9
      refine x_iload_n (pc := 9) K dX0_isFreeIn_9 2 rfl rfl ?_
      refine x_iload (pc := 10) K dX0_isFreeIn_10 4 rfl ?_
      refine x_pcallSz (pc := 12) (n := 2) K (c_X0_has l D cI cJ cZ cA u2 x4 _ h) rfl rfl gX0_isFreeIn_X0_has rfl (by decide +kernel) ⟨Nat.le_of_ble_eq_true rfl, Nat.le_of_ble_eq_true rfl⟩ rfl (av := [.int u2, .int x4]) rfl (Nat.le_of_ble_eq_true rfl) dX0_isFreeIn_12 ⟨Nat.le_of_ble_eq_true rfl, Nat.le_of_ble_eq_true rfl⟩ (fun r1 u9 h => ?_)
      refine x_if_eq (pc := 15) K dX0_isFreeIn_15 (tgt := 28) (by decide) (fun c9 => ?_) (fun c9 => ?_)
      · have h := h.1 c9
        refine x_iinc (v := x4 + (1 : Int32)) (lv' := [(0, .ref a_trial), (1, .int u1), (2, .int u2), (3, .int u3), (4, .int (x4 + (1 : Int32)))]) (pc := 28) K dX0_isFreeIn_28 (k := 4) rfl rfl (by decide) rfl ?_
        refine x_goto (pc := 31) K dX0_isFreeIn_31 (tgt := 3) (by decide) ?_
        exact ih (x4 + (1 : Int32)) h k0 k1
      · have h := h.2 c9
        refine x_aload_n (pc := 18) K dX0_isFreeIn_18 0 rfl rfl ?_
        refine x_iload (pc := 19) K dX0_isFreeIn_19 4 rfl ?_
        have g9 := h.1
        replace h := h.2
        refine x_iald (pc := 21) K 0 0 rfl rfl g9 dX0_isFreeIn_21 ?_
        clear g9
        refine x_iload_n (pc := 22) K dX0_isFreeIn_22 3 rfl rfl ?_
        refine x_icmp_ne (pc := 23) K dX0_isFreeIn_23 (tgt := 28) (by decide) (fun c9 => ?_) (fun c9 => ?_)
        · have h := h.1 c9
          refine x_iinc (v := x4 + (1 : Int32)) (lv' := [(0, .ref a_trial), (1, .int u1), (2, .int u2), (3, .int u3), (4, .int (x4 + (1 : Int32)))]) (pc := 28) K dX0_isFreeIn_28 (k := 4) rfl rfl (by decide) rfl ?_
          refine x_goto (pc := 31) K dX0_isFreeIn_31 (tgt := 3) (by decide) ?_
          exact ih (x4 + (1 : Int32)) h k0 k1
        · have h := h.2 c9
          refine x_keep [false, false, false, false, false] rfl ?_
          exact k1  h
set_option maxHeartbeats 4000000 in
set_option maxRecDepth 100000 in
theorem c_X0_isFreeIn (l : Launch) (D : va_G) (cI cJ cZ cA : ClassId) (a_trial : Nat) (p1 : Int32) (p2 : Int32) (p3 : Int32) (trial : Nat → Int32) (P : Int32 → Prop) (h : q_X0_isFreeIn p1 p2 p3 trial P) : xMz l yX0_isFreeIn wsX0_isFreeIn rm_X0_isFreeIn D vwCl (xtys cI cJ cZ cA) [(a_trial, .inl (cI, 10, .inl trial))] [.ref a_trial, .int p1, .int p2, .int p3] (σ := Unit) (fun _ => [(a_trial, .inl (cI, 10, .inl trial))]) (fun r _ => P r) := by
  refine xMz_of (cc := cX0_isFreeIn) (maxL := 5) (by decide) rfl (Nat.le_of_ble_eq_true rfl) ?_
  intro X K hE
  have K : xk X l rm_X0_isFreeIn D vwCl (xtys cI cJ cZ cA) cX0_isFreeIn RX0 wsX0_isFreeIn 5 := K
  unfold q_X0_isFreeIn at h
  refine x_iconst (v := (0)) (pc := 0) K dX0_isFreeIn_0 (by decide) ?_
  refine x_istore (lv' := [(0, .ref a_trial), (1, .int p1), (2, .int p2), (3, .int p3), (4, .int (0 : Int32))]) (pc := 1) K dX0_isFreeIn_1 (by decide) rfl ?_
  obtain ⟨n2, h⟩ := h
  refine w_X0_isFreeIn_L3 K p1 p2 p3 trial _ _ n2 (0 : Int32) h (fun  h => ?_) (fun  h => ?_)
  · refine x_iconst (v := (1)) (pc := 34) K dX0_isFreeIn_34 (by decide) ?_
    exact hE (1 : Int32) () _ _ h.2 h.1 dX0_isFreeIn_35
  · refine x_iconst (v := (0)) (pc := 26) K dX0_isFreeIn_26 (by decide) ?_
    exact hE (0 : Int32) () _ _ h.2 h.1 dX0_isFreeIn_27
