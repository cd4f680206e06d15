abbrev rm_X0_tryFrom (d : Nat) : Room := { frames := 12 + d, cells := 0, slots := 0, locals := 280 + 40 * d }
theorem kX0_tryFrom_0 : Cond.methodLink RX0 92 Lib.Math.max.name ∈ wsX0_tryFrom := by decide +kernel
theorem kX0_tryFrom_1 : Cond.static Lib.Math.max.name ∈ wsX0_tryFrom := by decide +kernel
theorem kX0_tryFrom_2 : Cond.initialized "java/lang/Math" ∈ wsX0_tryFrom := by decide +kernel
theorem kX0_tryFrom_3 : Cond.code Lib.Math.max.name Lib.Math.max.code 2 (some .int) ∈ wsX0_tryFrom := by decide +kernel
def q_X0_tryFrom_L33 (rec9 : Int32 → Int32 → Int32 → Int32 → (Nat → Int32) → (Nat → Int32) → (Int32 → (Nat → Int32) → Prop) → Prop) (u0 : Int32) (u2 : Int32) (u4 : Int32) (u5 : Int32) (near : Nat → Int32) (P0 : (Nat → Int32) → Prop) (P1 : (Nat → Int32) → Prop) : Nat → Int32 → (Nat → Int32) → Prop
  | 0, _, _ => False
  | n + 1, x6, trial => ((u5 < x6 → P0 trial) ∧ (¬ u5 < x6 → (((u4 + (1 : Int32)) < x6 → P0 trial) ∧ (¬ (u4 + (1 : Int32)) < x6 → xin u0 10 = true ∧ q_X0_isFreeIn u0 (near u0.toNatClampNeg) x6 trial (fun (r2 : Int32) => ((r2 = (0 : Int32) → q_X0_tryFrom_L33 rec9 u0 u2 u4 u5 near P0 P1 n (x6 + (1 : Int32)) trial) ∧ (¬ r2 = (0 : Int32) → xin u0 10 = true ∧ rec9 (u0 + (1 : Int32)) u2 (xmax u4 x6) u5 near (upd trial u0.toNatClampNeg x6) (fun (r5 : Int32) (trial_4 : Nat → Int32) => ((r5 = (0 : Int32) → q_X0_tryFrom_L33 rec9 u0 u2 u4 u5 near P0 P1 n (x6 + (1 : Int32)) trial_4) ∧ (¬ r5 = (0 : Int32) → P1 trial_4))))))))))
def q_X0_tryFrom : Nat → Int32 → Int32 → Int32 → Int32 → (Nat → Int32) → (Nat → Int32) → (Int32 → (Nat → Int32) → Prop) → Prop
  | 0, _, _, _, _, _, _, _ => False
  | d9 + 1, p0, p2, p4, p5, near, trial, P => ((p0 < (10 : Int32) → q_X0_has p2 p0 (fun (r1 : Int32) => ((¬ r1 = (0 : Int32) → (∃ n6 : Nat, q_X0_tryFrom_L33 (q_X0_tryFrom d9) p0 p2 p4 p5 near (fun (v7 : Nat → Int32) => (xbool (0 : Int32) ∧ P (0 : Int32) v7)) (fun (v8 : Nat → Int32) => (xbool (1 : Int32) ∧ P (1 : Int32) v8)) n6 (1 : Int32) trial)) ∧ (r1 = (0 : Int32) → q_X0_tryFrom d9 (p0 + (1 : Int32)) p2 p4 p5 near trial (fun (r10 : Int32) (trial_9 : Nat → Int32) => (xbool r10 ∧ P r10 trial_9)))))) ∧ (¬ p0 < (10 : Int32) → (xbool (1 : Int32) ∧ P (1 : Int32) trial)))
set_option maxHeartbeats 4000000 in
set_option maxRecDepth 100000 in
theorem w_X0_tryFrom_L33 {X : xC} {l : Launch} {D : va_G} {cI cJ cZ cA : ClassId} {a_near : Nat} {a_trial : Nat} {d9 : Nat} (K : xk X l (rm_X0_tryFrom (d9 + 1)) D vwCl (xtys cI cJ cZ cA) cX0_tryFrom RX0 wsX0_tryFrom 7) (rec9 : Int32 → Int32 → Int32 → Int32 → (Nat → Int32) → (Nat → Int32) → (Int32 → (Nat → Int32) → Prop) → Prop) (hrec : ∀  (a_near : Nat) (a_trial : Nat) (p0 : Int32) (p2 : Int32) (p4 : Int32) (p5 : Int32) (near : Nat → Int32) (trial : Nat → Int32) (P : Int32 → (Nat → Int32) → Prop), rec9 p0 p2 p4 p5 near trial P → xMz l yX0_tryFrom wsX0_tryFrom (rm_X0_tryFrom d9) D vwCl (xtys cI cJ cZ cA) [(a_near, .inl (cI, 10, .inl near)), (a_trial, .inl (cI, 10, .inl trial))] [.int p0, .ref a_near, .int p2, .ref a_trial, .int p4, .int p5] (σ := (Nat → Int32)) (fun u => [(a_near, .inl (cI, 10, .inl near)), (a_trial, .inl (cI, 10, .inl u))]) (fun r u => P r u)) (u0 : Int32) (u2 : Int32) (u4 : Int32) (u5 : Int32) (near : Nat → Int32) (P0 : (Nat → Int32) → Prop) (P1 : (Nat → Int32) → Prop) : ∀ (n : Nat) (x6 : Int32) (trial : Nat → Int32), q_X0_tryFrom_L33 rec9 u0 u2 u4 u5 near P0 P1 n x6 trial → (∀ (z0 : Nat → Int32), P0 z0 → xw X 0 0 96 [] [] [(a_near, .inl (cI, 10, .inl near)), (a_trial, .inl (cI, 10, .inl z0))]) → (∀ (z0 : Nat → Int32), P1 z0 → xw X 0 0 88 [] [] [(a_near, .inl (cI, 10, .inl near)), (a_trial, .inl (cI, 10, .inl z0))]) → xw X 0 0 33 [(0, .int u0), (1, .ref a_near), (2, .int u2), (3, .ref a_trial), (4, .int u4), (5, .int u5), (6, .int x6)] [] [(a_near, .inl (cI, 10, .inl near)), (a_trial, .inl (cI, 10, .inl trial))] := by
  intro n
  induction n with
  | zero =>
    intro x6 trial h
    rw [q_X0_tryFrom_L33] at h
    exact h.elim
  | succ n ih =>
    intro x6 trial h k0 k1
    rw [q_X0_tryFrom_L33] at h
    refine x_iload (pc := 33) K dX0_tryFrom_33 6 rfl ?_
    refine x_iload (pc := 35) K dX0_tryFrom_35 5 rfl ?_
    refine x_icmp_gt (pc := 37) K dX0_tryFrom_37 (tgt := 96) (by decide) (fun c9 => ?_) (fun c9 => ?_)
    · have h := h.1 c9
      refine x_keep [false, false, false, false, false, false, false] rfl ?_
      exact k0 trial h
    · have h := h.2 c9
      refine x_iload (pc := 40) K dX0_tryFrom_40 6 rfl ?_
      refine x_iload (pc := 42) K dX0_tryFrom_42 4 rfl ?_
      refine x_iconst (v := (1)) (pc := 44) K dX0_tryFrom_44 (by decide) ?_
      refine x_iadd (pc := 45) K dX0_tryFrom_45 ?_
      refine x_icmp_gt (pc := 46) K dX0_tryFrom_46 (tgt := 96) (by decide) (fun c9 => ?_) (fun c9 => ?_)
      · have h := h.1 c9
        refine x_keep [false, false, false, false, false, false, false] rfl ?_
        exact k0 trial h
      · have h := h.2 c9
        refine x_aload_n (pc := 49) K dX0_tryFrom_49 3 rfl rfl ?_
        refine x_iload_n (pc := 50) K dX0_tryFrom_50 0 rfl rfl ?_
        refine x_aload_n (pc := 51) K dX0_tryFrom_51 1 rfl rfl ?_
        refine x_iload_n (pc := 52) K dX0_tryFrom_52 0 rfl rfl ?_
        have g9 := h.1
        replace h := h.2
        refine x_iald (pc := 53) K 0 0 rfl rfl g9 dX0_tryFrom_53 ?_
        clear g9
        refine x_iload (pc := 54) K dX0_tryFrom_54 6 rfl ?_
        refine x_callSz (pc := 56) (n := 4) K (c_X0_isFreeIn l D cI cJ cZ cA a_trial u0 (near u0.toNatClampNeg) x6 trial _ h) rfl rfl gX0_tryFrom_X0_isFreeIn rfl (by decide +kernel) ⟨by dsimp only [rm_X0_tryFrom]; omega, by dsimp only [rm_X0_tryFrom]; omega⟩ rfl (av := [.ref a_trial, .int u0, .int (near u0.toNatClampNeg), .int x6]) rfl (Nat.le_of_ble_eq_true rfl) [1] [0] (wr := [(a_near, .inl (cI, 10, .inl near))]) rfl rfl rfl rfl (by decide) dX0_tryFrom_56 ⟨Nat.le_of_ble_eq_true rfl, Nat.le_of_ble_eq_true rfl⟩ (fun r2 u9 h => ?_)
        refine x_wsub (ws' := [(a_near, .inl (cI, 10, .inl near)), (a_trial, .inl (cI, 10, .inl trial))]) [0, 1] rfl rfl ?_
        refine x_if_eq (pc := 59) K dX0_tryFrom_59 (tgt := 90) (by decide) (fun c9 => ?_) (fun c9 => ?_)
        · have h := h.1 c9
          refine x_iinc (v := x6 + (1 : Int32)) (lv' := [(0, .int u0), (1, .ref a_near), (2, .int u2), (3, .ref a_trial), (4, .int u4), (5, .int u5), (6, .int (x6 + (1 : Int32)))]) (pc := 90) K dX0_tryFrom_90 (k := 6) rfl rfl (by decide) rfl ?_
          refine x_goto (pc := 93) K dX0_tryFrom_93 (tgt := 33) (by decide) ?_
          exact ih (x6 + (1 : Int32)) trial h k0 k1
        · have h := h.2 c9
          refine x_aload_n (pc := 62) K dX0_tryFrom_62 3 rfl rfl ?_
          refine x_iload_n (pc := 63) K dX0_tryFrom_63 0 rfl rfl ?_
          refine x_iload (pc := 64) K dX0_tryFrom_64 6 rfl ?_
          have g9 := h.1
          replace h := h.2
          refine x_iast (ws' := [(a_near, .inl (cI, 10, .inl near)), (a_trial, .inl (cI, 10, .inl (upd trial u0.toNatClampNeg x6)))]) (pc := 66) K 1 0 rfl rfl rfl g9 dX0_tryFrom_66 ?_
          clear g9
          refine x_iload_n (pc := 67) K dX0_tryFrom_67 0 rfl rfl ?_
          refine x_iconst (v := (1)) (pc := 68) K dX0_tryFrom_68 (by decide) ?_
          refine x_iadd (pc := 69) K dX0_tryFrom_69 ?_
          refine x_aload_n (pc := 70) K dX0_tryFrom_70 1 rfl rfl ?_
          refine x_iload_n (pc := 71) K dX0_tryFrom_71 2 rfl rfl ?_
          refine x_aload_n (pc := 72) K dX0_tryFrom_72 3 rfl rfl ?_
          refine x_iload (pc := 73) K dX0_tryFrom_73 4 rfl ?_
          refine x_iload (pc := 75) K dX0_tryFrom_75 6 rfl ?_
          refine x_mmax (pc := 77) K kX0_tryFrom_0 kX0_tryFrom_1 kX0_tryFrom_2 kX0_tryFrom_3 ⟨by dsimp only [rm_X0_tryFrom]; omega, by show 4 + 13 ≤ (rm_X0_tryFrom (d9 + 1)).locals; dsimp only [rm_X0_tryFrom]; omega⟩ ⟨Nat.le_of_ble_eq_true rfl, Nat.le_of_ble_eq_true rfl⟩ dX0_tryFrom_77 ?_
          refine x_iload (pc := 80) K dX0_tryFrom_80 5 rfl ?_
          refine x_callSz (pc := 82) (n := 6) K (hrec a_near a_trial (u0 + (1 : Int32)) u2 (xmax u4 x6) u5 near (upd trial u0.toNatClampNeg x6) _ h) rfl rfl gX0_tryFrom_X0_tryFrom rfl (by decide +kernel) ⟨by dsimp only [rm_X0_tryFrom]; omega, by dsimp only [rm_X0_tryFrom]; omega⟩ rfl (av := [.int (u0 + (1 : Int32)), .ref a_near, .int u2, .ref a_trial, .int (xmax u4 x6), .int u5]) rfl (Nat.le_of_ble_eq_true rfl) [0, 1] [] (wr := []) rfl rfl rfl rfl (by decide) dX0_tryFrom_82 ⟨Nat.le_of_ble_eq_true rfl, Nat.le_of_ble_eq_true rfl⟩ (fun r5 trial_4 h => ?_)
          refine x_wsub (ws' := [(a_near, .inl (cI, 10, .inl near)), (a_trial, .inl (cI, 10, .inl trial_4))]) [0, 1] rfl rfl ?_
          refine x_if_eq (pc := 85) K dX0_tryFrom_85 (tgt := 90) (by decide) (fun c9 => ?_) (fun c9 => ?_)
          · have h := h.1 c9
            refine x_iinc (v := x6 + (1 : Int32)) (lv' := [(0, .int u0), (1, .ref a_near), (2, .int u2), (3, .ref a_trial), (4, .int u4), (5, .int u5), (6, .int (x6 + (1 : Int32)))]) (pc := 90) K dX0_tryFrom_90 (k := 6) rfl rfl (by decide) rfl ?_
            refine x_goto (pc := 93) K dX0_tryFrom_93 (tgt := 33) (by decide) ?_
            exact ih (x6 + (1 : Int32)) trial_4 h k0 k1
          · have h := h.2 c9
            refine x_keep [false, false, false, false, false, false, false] rfl ?_
            exact k1 trial_4 h
set_option maxHeartbeats 4000000 in
set_option maxRecDepth 100000 in
theorem c_X0_tryFrom (l : Launch) (D : va_G) (cI cJ cZ cA : ClassId) (d9 : Nat) : ∀  (a_near : Nat) (a_trial : Nat) (p0 : Int32) (p2 : Int32) (p4 : Int32) (p5 : Int32) (near : Nat → Int32) (trial : Nat → Int32) (P : Int32 → (Nat → Int32) → Prop), q_X0_tryFrom d9 p0 p2 p4 p5 near trial P → xMz l yX0_tryFrom wsX0_tryFrom (rm_X0_tryFrom d9) D vwCl (xtys cI cJ cZ cA) [(a_near, .inl (cI, 10, .inl near)), (a_trial, .inl (cI, 10, .inl trial))] [.int p0, .ref a_near, .int p2, .ref a_trial, .int p4, .int p5] (σ := (Nat → Int32)) (fun u => [(a_near, .inl (cI, 10, .inl near)), (a_trial, .inl (cI, 10, .inl u))]) (fun r u => P r u) := by
  induction d9 with
  | zero =>
    intro a_near a_trial p0 p2 p4 p5 near trial P h
    rw [q_X0_tryFrom] at h
    exact h.elim
  | succ d9 hrec =>
    intro a_near a_trial p0 p2 p4 p5 near trial P h
    rw [q_X0_tryFrom] at h
    refine xMz_of (cc := cX0_tryFrom) (maxL := 7) (by decide) rfl (Nat.le_of_ble_eq_true rfl) ?_
    intro X K hE
    have K : xk X l (rm_X0_tryFrom (d9 + 1)) D vwCl (xtys cI cJ cZ cA) cX0_tryFrom RX0 wsX0_tryFrom 7 := K
    refine x_iload_n (pc := 0) K dX0_tryFrom_0 0 rfl rfl ?_
    refine x_bipush (v := (10)) (pc := 1) K dX0_tryFrom_1 (by decide) ?_
    refine x_icmp_lt (pc := 3) K dX0_tryFrom_3 (tgt := 8) (by decide) (fun c9 => ?_) (fun c9 => ?_)
    · have h := h.1 c9
      refine x_iload_n (pc := 8) K dX0_tryFrom_8 2 rfl rfl ?_
      refine x_iload_n (pc := 9) K dX0_tryFrom_9 0 rfl rfl ?_
      refine x_pcallSz (pc := 10) (n := 2) K (c_X0_has l D cI cJ cZ cA p2 p0 _ h) rfl rfl gX0_tryFrom_X0_has rfl (by decide +kernel) ⟨by dsimp only [rm_X0_tryFrom]; omega, by dsimp only [rm_X0_tryFrom]; omega⟩ rfl (av := [.int p2, .int p0]) rfl (Nat.le_of_ble_eq_true rfl) dX0_tryFrom_10 ⟨Nat.le_of_ble_eq_true rfl, Nat.le_of_ble_eq_true rfl⟩ (fun r1 u9 h => ?_)
      refine x_if_ne (pc := 13) K dX0_tryFrom_13 (tgt := 30) (by decide) (fun c9 => ?_) (fun c9 => ?_)
      · have h := h.1 c9
        refine x_iconst (v := (1)) (pc := 30) K dX0_tryFrom_30 (by decide) ?_
        refine x_istore (lv' := [(0, .int p0), (1, .ref a_near), (2, .int p2), (3, .ref a_trial), (4, .int p4), (5, .int p5), (6, .int (1 : Int32))]) (pc := 31) K dX0_tryFrom_31 (by decide) rfl ?_
        obtain ⟨n6, h⟩ := h
        refine w_X0_tryFrom_L33 K (q_X0_tryFrom d9) hrec p0 p2 p4 p5 near _ _ n6 (1 : Int32) trial h (fun v7 h => ?_) (fun v8 h => ?_)
        · refine x_iconst (v := (0)) (pc := 96) K dX0_tryFrom_96 (by decide) ?_
          exact hE (0 : Int32) v7 _ _ h.2 h.1 dX0_tryFrom_97
        · refine x_iconst (v := (1)) (pc := 88) K dX0_tryFrom_88 (by decide) ?_
          exact hE (1 : Int32) v8 _ _ h.2 h.1 dX0_tryFrom_89
      · have h := h.2 c9
        refine x_iload_n (pc := 16) K dX0_tryFrom_16 0 rfl rfl ?_
        refine x_iconst (v := (1)) (pc := 17) K dX0_tryFrom_17 (by decide) ?_
        refine x_iadd (pc := 18) K dX0_tryFrom_18 ?_
        refine x_aload_n (pc := 19) K dX0_tryFrom_19 1 rfl rfl ?_
        refine x_iload_n (pc := 20) K dX0_tryFrom_20 2 rfl rfl ?_
        refine x_aload_n (pc := 21) K dX0_tryFrom_21 3 rfl rfl ?_
        refine x_iload (pc := 22) K dX0_tryFrom_22 4 rfl ?_
        refine x_iload (pc := 24) K dX0_tryFrom_24 5 rfl ?_
        refine x_callSz (pc := 26) (n := 6) K (hrec a_near a_trial (p0 + (1 : Int32)) p2 p4 p5 near trial _ h) rfl rfl gX0_tryFrom_X0_tryFrom rfl (by decide +kernel) ⟨by dsimp only [rm_X0_tryFrom]; omega, by dsimp only [rm_X0_tryFrom]; omega⟩ rfl (av := [.int (p0 + (1 : Int32)), .ref a_near, .int p2, .ref a_trial, .int p4, .int p5]) rfl (Nat.le_of_ble_eq_true rfl) [0, 1] [] (wr := []) rfl rfl rfl rfl (by decide) dX0_tryFrom_26 ⟨Nat.le_of_ble_eq_true rfl, Nat.le_of_ble_eq_true rfl⟩ (fun r10 trial_9 h => ?_)
        refine x_wsub (ws' := [(a_near, .inl (cI, 10, .inl near)), (a_trial, .inl (cI, 10, .inl trial_9))]) [0, 1] rfl rfl ?_
        exact hE r10 trial_9 _ _ h.2 h.1 dX0_tryFrom_29
    · have h := h.2 c9
      refine x_keep [false, false, false, false, false, false] rfl ?_
      refine x_iconst (v := (1)) (pc := 6) K dX0_tryFrom_6 (by decide) ?_
      exact hE (1 : Int32) trial _ _ h.2 h.1 dX0_tryFrom_7
abbrev rm_X0_tryFewest : Room := { frames := 25, cells := 0, slots := 0, locals := 800 }
theorem inX0_tryFewest : ∀ w ∈ u_ws RX0 TX0 8, w ∈ wsX0_tryFewest := by decide +kernel
theorem kX0_tryFewest_0 : Cond.fieldLink RX0 17 "FourTints" "near" "[I" ∈ wsX0_tryFewest := by decide +kernel
theorem kX0_tryFewest_1 : Cond.fieldLink RX0 13 "FourTints" "there" "I" ∈ wsX0_tryFewest := by decide +kernel
theorem kX0_tryFewest_2 : Cond.fieldLink RX0 24 "FourTints" "trial" "[I" ∈ wsX0_tryFewest := by decide +kernel
def q_X0_tryFewest_L2 (there : Int32) (near : Nat → Int32) (P0 : (Nat → Int32) → Prop) (P1 : Int32 → (Nat → Int32) → Prop) : Nat → Int32 → (Nat → Int32) → Prop
  | 0, _, _ => False
  | n + 1, x1, trial => (((10 : Int32) < x1 → P0 trial) ∧ (¬ (10 : Int32) < x1 → q_X0_tryFrom 12 (0 : Int32) there (0 : Int32) x1 near trial (fun (r2 : Int32) (trial_1 : Nat → Int32) => ((r2 = (0 : Int32) → q_X0_tryFewest_L2 there near P0 P1 n (x1 + (1 : Int32)) trial_1) ∧ (¬ r2 = (0 : Int32) → P1 x1 trial_1)))))
def q_X0_tryFewest (there : Int32) (near : Nat → Int32) (trial : Nat → Int32) (P : Int32 → (Nat → Int32) → Prop) : Prop := (∃ n3 : Nat, q_X0_tryFewest_L2 there near (fun (v4 : Nat → Int32) => P (10 : Int32) v4) (fun (v5 : Int32) (v6 : Nat → Int32) => P v5 v6) n3 (0 : Int32) trial)
set_option maxHeartbeats 4000000 in
set_option maxRecDepth 100000 in
theorem w_X0_tryFewest_L2 {X : xC} {l : Launch} {D : va_G} {cI cJ cZ cA : ClassId} {V : Nat → Nat} (K : xk X l rm_X0_tryFewest D vwCl (xtys cI cJ cZ cA) cX0_tryFewest RX0 wsX0_tryFewest 2) (land : Nat → Int64) (there : Int32) (near : Nat → Int32) (worn : Nat → Int32) (fits : Nat → Int32) (ways : Nat → Int64) (P0 : (Nat → Int32) → Prop) (P1 : Int32 → (Nat → Int32) → Prop) : ∀ (n : Nat) (x1 : Int32) (trial : Nat → Int32), q_X0_tryFewest_L2 there near P0 P1 n x1 trial → (∀ (z0 : Nat → Int32), P0 z0 → xw X 0 0 37 [] [] (wX0 cI cJ cZ cA V land there near worn z0 fits ways)) → (∀ (z0 : Int32) (z1 : Nat → Int32), P1 z0 z1 → xw X 0 0 29 [(1, .int z0)] [] (wX0 cI cJ cZ cA V land there near worn z1 fits ways)) → xw X 0 0 2 [(0, .ref (V 0)), (1, .int x1)] [] (wX0 cI cJ cZ cA V land there near worn trial fits ways) := by
  intro n
  induction n with
  | zero =>
    intro x1 trial h
    rw [q_X0_tryFewest_L2] at h
    exact h.elim
  | succ n ih =>
    intro x1 trial h k0 k1
    rw [q_X0_tryFewest_L2] at h
    refine x_iload_n (pc := 2) K dX0_tryFewest_2 1 rfl rfl ?_
    refine x_bipush (v := (10)) (pc := 3) K dX0_tryFewest_3 (by decide) ?_
    refine x_icmp_gt (pc := 5) K dX0_tryFewest_5 (tgt := 37) (by decide) (fun c9 => ?_) (fun c9 => ?_)
    · have h := h.1 c9
      refine x_keep [false, false] rfl ?_
      exact k0 trial h
    · have h := h.2 c9
      refine x_iconst (v := (0)) (pc := 8) K dX0_tryFewest_8 (by decide) ?_
      refine x_aload_n (pc := 9) K dX0_tryFewest_9 0 rfl rfl ?_
      refine x_get (pc := 10) (ci := 0) (C := RX0) (T := TX0) (N := 8) K (inX0_tryFewest) 0 rfl rfl 2 (by decide) kX0_tryFewest_0 rfl rfl dX0_tryFewest_10 ?_
      refine x_aload_n (pc := 13) K dX0_tryFewest_13 0 rfl rfl ?_
      refine x_get (pc := 14) (ci := 0) (C := RX0) (T := TX0) (N := 8) K (inX0_tryFewest) 0 rfl rfl 1 (by decide) kX0_tryFewest_1 rfl rfl dX0_tryFewest_14 ?_
      refine x_aload_n (pc := 17) K dX0_tryFewest_17 0 rfl rfl ?_
      refine x_get (pc := 18) (ci := 0) (C := RX0) (T := TX0) (N := 8) K (inX0_tryFewest) 0 rfl rfl 4 (by decide) kX0_tryFewest_2 rfl rfl dX0_tryFewest_18 ?_
      refine x_iconst (v := (0)) (pc := 21) K dX0_tryFewest_21 (by decide) ?_
      refine x_iload_n (pc := 22) K dX0_tryFewest_22 1 rfl rfl ?_
      refine x_callSz (pc := 23) (n := 6) K (c_X0_tryFrom l D cI cJ cZ cA 12 (V 2) (V 4) (0 : Int32) there (0 : Int32) x1 near trial _ h) rfl rfl gX0_tryFewest_X0_tryFrom rfl (by decide +kernel) ⟨Nat.le_of_ble_eq_true rfl, Nat.le_of_ble_eq_true rfl⟩ rfl (av := [.int (0 : Int32), .ref (V 2), .int there, .ref (V 4), .int (0 : Int32), .int x1]) rfl (Nat.le_of_ble_eq_true rfl) [2, 4] [0, 1, 3, 5, 6] (wr := [(V 0, .inr (0, [.ref (V 1), .int there, .ref (V 2), .ref (V 3), .ref (V 4), .ref (V 5), .ref (V 6), .ref (V 7)])), (V 1, .inl (cJ, 10, .inr (.inl land))), (V 3, .inl (cI, 10, .inl worn)), (V 5, .inl (cZ, 1024, .inl fits)), (V 6, .inl (cJ, 1024, .inr (.inl ways)))]) rfl rfl rfl rfl (by decide) dX0_tryFewest_23 ⟨Nat.le_of_ble_eq_true rfl, Nat.le_of_ble_eq_true rfl⟩ (fun r2 trial_1 h => ?_)
      refine x_wsub (ws' := (wX0 cI cJ cZ cA V land there near worn trial_1 fits ways)) [0, 1, 5, 2, 6, 3, 4] rfl rfl ?_
      refine x_if_eq (pc := 26) K dX0_tryFewest_26 (tgt := 31) (by decide) (fun c9 => ?_) (fun c9 => ?_)
      · have h := h.1 c9
        refine x_iinc (v := x1 + (1 : Int32)) (lv' := [(0, .ref (V 0)), (1, .int (x1 + (1 : Int32)))]) (pc := 31) K dX0_tryFewest_31 (k := 1) rfl rfl (by decide) rfl ?_
        refine x_goto (pc := 34) K dX0_tryFewest_34 (tgt := 2) (by decide) ?_
        exact ih (x1 + (1 : Int32)) trial_1 h k0 k1
      · have h := h.2 c9
        refine x_keep [false, true] rfl ?_
        exact k1 x1 trial_1 h
set_option maxHeartbeats 4000000 in
set_option maxRecDepth 100000 in
theorem c_X0_tryFewest (l : Launch) (D : va_G) (cI cJ cZ cA : ClassId) (V : Nat → Nat) (land : Nat → Int64) (there : Int32) (near : Nat → Int32) (worn : Nat → Int32) (trial : Nat → Int32) (fits : Nat → Int32) (ways : Nat → Int64) (P : Int32 → (Nat → Int32) → Prop) (h : q_X0_tryFewest there near trial P) : xMi l yX0_tryFewest wsX0_tryFewest rm_X0_tryFewest D vwCl (xtys cI cJ cZ cA) (wX0 cI cJ cZ cA V land there near worn trial fits ways) [.ref (V 0)] (σ := (Nat → Int32)) (fun u => (wX0 cI cJ cZ cA V land there near worn u fits ways)) (fun r u => P r u) := by
  refine xMi_of (cc := cX0_tryFewest) (maxL := 2) (by decide) rfl (Nat.le_of_ble_eq_true rfl) ?_
  intro X K hE
  have K : xk X l rm_X0_tryFewest D vwCl (xtys cI cJ cZ cA) cX0_tryFewest RX0 wsX0_tryFewest 2 := K
  unfold q_X0_tryFewest at h
  refine x_iconst (v := (0)) (pc := 0) K dX0_tryFewest_0 (by decide) ?_
  refine x_istore_n (lv' := [(0, .ref (V 0)), (1, .int (0 : Int32))]) (pc := 1) K dX0_tryFewest_1 rfl (by decide) rfl ?_
  obtain ⟨n3, h⟩ := h
  refine w_X0_tryFewest_L2 K land there near worn fits ways _ _ n3 (0 : Int32) trial h (fun v4 h => ?_) (fun v5 v6 h => ?_)
  · refine x_bipush (v := (10)) (pc := 37) K dX0_tryFewest_37 (by decide) ?_
    exact hE (10 : Int32) v4 _ _ h dX0_tryFewest_39
  · refine x_iload_n (pc := 29) K dX0_tryFewest_29 0 rfl rfl ?_
    exact hE v5 v6 _ _ h dX0_tryFewest_30
abbrev rm_X0_areAllNeighbours : Room := { frames := 9, cells := 0, slots := 0, locals := 160 }
def q_X0_areAllNeighbours_L2 (u1 : Int32) (near : Nat → Int32) (P0 : Prop) (P1 : Prop) : Nat → Int32 → Prop
  | 0, _ => False
  | n + 1, x2 => (((10 : Int32) ≤ x2 → P0) ∧ (¬ (10 : Int32) ≤ x2 → q_X0_has u1 x2 (fun (r1 : Int32) => ((r1 = (0 : Int32) → q_X0_areAllNeighbours_L2 u1 near P0 P1 n (x2 + (1 : Int32))) ∧ (¬ r1 = (0 : Int32) → xin x2 10 = true ∧ ((((u1 &&& ((near x2.toNatClampNeg) ^^^ (-1 : Int32))) &&& (((1 : Int32) <<< (x2 &&& 31)) ^^^ (-1 : Int32))) = (0 : Int32) → q_X0_areAllNeighbours_L2 u1 near P0 P1 n (x2 + (1 : Int32))) ∧ (¬ ((u1 &&& ((near x2.toNatClampNeg) ^^^ (-1 : Int32))) &&& (((1 : Int32) <<< (x2 &&& 31)) ^^^ (-1 : Int32))) = (0 : Int32) → P1)))))))
def q_X0_areAllNeighbours (p1 : Int32) (near : Nat → Int32) (P : Int32 → Prop) : Prop := (∃ n2 : Nat, q_X0_areAllNeighbours_L2 p1 near ((xbool (1 : Int32) ∧ P (1 : Int32))) ((xbool (0 : Int32) ∧ P (0 : Int32))) n2 (0 : Int32))
set_option maxHeartbeats 4000000 in
set_option maxRecDepth 100000 in
theorem w_X0_areAllNeighbours_L2 {X : xC} {l : Launch} {D : va_G} {cI cJ cZ cA : ClassId} {a_near : Nat} (K : xk X l rm_X0_areAllNeighbours D vwCl (xtys cI cJ cZ cA) cX0_areAllNeighbours RX0 wsX0_areAllNeighbours 3) (u1 : Int32) (near : Nat → Int32) (P0 : Prop) (P1 : Prop) : ∀ (n : Nat) (x2 : Int32), q_X0_areAllNeighbours_L2 u1 near P0 P1 n x2 → (P0 → xw X 0 0 40 [] [] [(a_near, .inl (cI, 10, .inl near))]) → (P1 → xw X 0 0 32 [] [] [(a_near, .inl (cI, 10, .inl near))]) → xw X 0 0 2 [(0, .ref a_near), (1, .int u1), (2, .int x2)] [] [(a_near, .inl (cI, 10, .inl near))] := by
  intro n
  induction n with
  | zero =>
    intro x2 h
    rw [q_X0_areAllNeighbours_L2] at h
    exact h.elim
  | succ n ih =>
    intro x2 h k0 k1
    rw [q_X0_areAllNeighbours_L2] at h
    refine x_iload_n (pc := 2) K dX0_areAllNeighbours_2 2 rfl rfl ?_
    refine x_bipush (v := (10)) (pc := 3) K dX0_areAllNeighbours_3 (by decide) ?_
    refine x_icmp_ge (pc := 5) K dX0_areAllNeighbours_5 (tgt := 40) (by decide) (fun c9 => ?_) (fun c9 => ?_)
    · have h := h.1 c9
      refine x_keep [false, false, false] rfl ?_
      exact k0  h
    · have h := h.2 c9
      refine x_iload_n (pc := 8) K dX0_areAllNeighbours_8 1 rfl rfl ?_
      refine x_iload_n (pc := 9) K dX0_areAllNeighbours_9 2 rfl rfl ?_
      refine x_pcallSz (pc := 10) (n := 2) K (c_X0_has l D cI cJ cZ cA u1 x2 _ h) rfl rfl gX0_areAllNeighbours_X0_has rfl (by decide +kernel) ⟨Nat.le_of_ble_eq_true rfl, Nat.le_of_ble_eq_true rfl⟩ rfl (av := [.int u1, .int x2]) rfl (Nat.le_of_ble_eq_true rfl) dX0_areAllNeighbours_10 ⟨Nat.le_of_ble_eq_true rfl, Nat.le_of_ble_eq_true rfl⟩ (fun r1 u9 h => ?_)
      refine x_if_eq (pc := 13) K dX0_areAllNeighbours_13 (tgt := 34) (by decide) (fun c9 => ?_) (fun c9 => ?_)
      · have h := h.1 c9
        refine x_iinc (v := x2 + (1 : Int32)) (lv' := [(0, .ref a_near), (1, .int u1), (2, .int (x2 + (1 : Int32)))]) (pc := 34) K dX0_areAllNeighbours_34 (k := 2) rfl rfl (by decide) rfl ?_
        refine x_goto (pc := 37) K dX0_areAllNeighbours_37 (tgt := 2) (by decide) ?_
        exact ih (x2 + (1 : Int32)) h k0 k1
      · have h := h.2 c9
        refine x_iload_n (pc := 16) K dX0_areAllNeighbours_16 1 rfl rfl ?_
        refine x_aload_n (pc := 17) K dX0_areAllNeighbours_17 0 rfl rfl ?_
        refine x_iload_n (pc := 18) K dX0_areAllNeighbours_18 2 rfl rfl ?_
        have g9 := h.1
        replace h := h.2
        refine x_iald (pc := 19) K 0 0 rfl rfl g9 dX0_areAllNeighbours_19 ?_
        clear g9
        refine x_iconst (v := (-1)) (pc := 20) K dX0_areAllNeighbours_20 (by decide) ?_
        refine x_ixor (pc := 21) K dX0_areAllNeighbours_21 ?_
        refine x_iand (pc := 22) K dX0_areAllNeighbours_22 ?_
        refine x_iconst (v := (1)) (pc := 23) K dX0_areAllNeighbours_23 (by decide) ?_
        refine x_iload_n (pc := 24) K dX0_areAllNeighbours_24 2 rfl rfl ?_
        refine x_ishl (pc := 25) K dX0_areAllNeighbours_25 ?_
        refine x_iconst (v := (-1)) (pc := 26) K dX0_areAllNeighbours_26 (by decide) ?_
        refine x_ixor (pc := 27) K dX0_areAllNeighbours_27 ?_
        refine x_iand (pc := 28) K dX0_areAllNeighbours_28 ?_
        refine x_if_eq (pc := 29) K dX0_areAllNeighbours_29 (tgt := 34) (by decide) (fun c9 => ?_) (fun c9 => ?_)
        · have h := h.1 c9
          refine x_iinc (v := x2 + (1 : Int32)) (lv' := [(0, .ref a_near), (1, .int u1), (2, .int (x2 + (1 : Int32)))]) (pc := 34) K dX0_areAllNeighbours_34 (k := 2) rfl rfl (by decide) rfl ?_
          refine x_goto (pc := 37) K dX0_areAllNeighbours_37 (tgt := 2) (by decide) ?_
          exact ih (x2 + (1 : Int32)) h k0 k1
        · have h := h.2 c9
          refine x_keep [false, false, false] rfl ?_
          exact k1  h
set_option maxHeartbeats 4000000 in
set_option maxRecDepth 100000 in
theorem c_X0_areAllNeighbours (l : Launch) (D : va_G) (cI cJ cZ cA : ClassId) (a_near : Nat) (p1 : Int32) (near : Nat → Int32) (P : Int32 → Prop) (h : q_X0_areAllNeighbours p1 near P) : xMz l yX0_areAllNeighbours wsX0_areAllNeighbours rm_X0_areAllNeighbours D vwCl (xtys cI cJ cZ cA) [(a_near, .inl (cI, 10, .inl near))] [.ref a_near, .int p1] (σ := Unit) (fun _ => [(a_near, .inl (cI, 10, .inl near))]) (fun r _ => P r) := by
  refine xMz_of (cc := cX0_areAllNeighbours) (maxL := 3) (by decide) rfl (Nat.le_of_ble_eq_true rfl) ?_
  intro X K hE
  have K : xk X l rm_X0_areAllNeighbours D vwCl (xtys cI cJ cZ cA) cX0_areAllNeighbours RX0 wsX0_areAllNeighbours 3 := K
  unfold q_X0_areAllNeighbours at h
  refine x_iconst (v := (0)) (pc := 0) K dX0_areAllNeighbours_0 (by decide) ?_
  refine x_istore_n (lv' := [(0, .ref a_near), (1, .int p1), (2, .int (0 : Int32))]) (pc := 1) K dX0_areAllNeighbours_1 rfl (by decide) rfl ?_
  obtain ⟨n2, h⟩ := h
  refine w_X0_areAllNeighbours_L2 K p1 near _ _ n2 (0 : Int32) h (fun  h => ?_) (fun  h => ?_)
  · refine x_iconst (v := (1)) (pc := 40) K dX0_areAllNeighbours_40 (by decide) ?_
    exact hE (1 : Int32) () _ _ h.2 h.1 dX0_areAllNeighbours_41
  · refine x_iconst (v := (0)) (pc := 32) K dX0_areAllNeighbours_32 (by decide) ?_
    exact hE (0 : Int32) () _ _ h.2 h.1 dX0_areAllNeighbours_33
abbrev rm_X0_oneToTintLast : Room := { frames := 10, cells := 0, slots := 0, locals := 200 }
def q_X0_oneToTintLast_L2 (u1 : Int32) (near : Nat → Int32) (P0 : Prop) (P1 : Int32 → Prop) : Nat → Int32 → Prop
  | 0, _ => False
  | n + 1, x2 => (((10 : Int32) ≤ x2 → P0) ∧ (¬ (10 : Int32) ≤ x2 → q_X0_has u1 x2 (fun (r1 : Int32) => ((r1 = (0 : Int32) → q_X0_oneToTintLast_L2 u1 near P0 P1 n (x2 + (1 : Int32))) ∧ (¬ r1 = (0 : Int32) → xin x2 10 = true ∧ q_X0_areAllNeighbours ((near x2.toNatClampNeg) &&& u1) near (fun (r2 : Int32) => ((r2 = (0 : Int32) → q_X0_oneToTintLast_L2 u1 near P0 P1 n (x2 + (1 : Int32))) ∧ (¬ r2 = (0 : Int32) → P1 x2))))))))
def q_X0_oneToTintLast (p1 : Int32) (near : Nat → Int32) (P : Int32 → Prop) : Prop := (∃ n3 : Nat, q_X0_oneToTintLast_L2 p1 near (P (-1 : Int32)) (fun (v4 : Int32) => P v4) n3 (0 : Int32))
set_option maxHeartbeats 4000000 in
set_option maxRecDepth 100000 in
theorem w_X0_oneToTintLast_L2 {X : xC} {l : Launch} {D : va_G} {cI cJ cZ cA : ClassId} {a_near : Nat} (K : xk X l rm_X0_oneToTintLast D vwCl (xtys cI cJ cZ cA) cX0_oneToTintLast RX0 wsX0_oneToTintLast 3) (u1 : Int32) (near : Nat → Int32) (P0 : Prop) (P1 : Int32 → Prop) : ∀ (n : Nat) (x2 : Int32), q_X0_oneToTintLast_L2 u1 near P0 P1 n x2 → (P0 → xw X 0 0 36 [] [] [(a_near, .inl (cI, 10, .inl near))]) → (∀ (z0 : Int32), P1 z0 → xw X 0 0 28 [(2, .int z0)] [] [(a_near, .inl (cI, 10, .inl near))]) → xw X 0 0 2 [(0, .ref a_near), (1, .int u1), (2, .int x2)] [] [(a_near, .inl (cI, 10, .inl near))] := by
  intro n
  induction n with
  | zero =>
    intro x2 h
    rw [q_X0_oneToTintLast_L2] at h
    exact h.elim
  | succ n ih =>
    intro x2 h k0 k1
    rw [q_X0_oneToTintLast_L2] at h
    refine x_iload_n (pc := 2) K dX0_oneToTintLast_2 2 rfl rfl ?_
    refine x_bipush (v := (10)) (pc := 3) K dX0_oneToTintLast_3 (by decide) ?_
    refine x_icmp_ge (pc := 5) K dX0_oneToTintLast_5 (tgt := 36) (by decide) (fun c9 => ?_) (fun c9 => ?_)
    · have h := h.1 c9
      refine x_keep [false, false, false] rfl ?_
      exact k0  h
    · have h := h.2 c9
      refine x_iload_n (pc := 8) K dX0_oneToTintLast_8 1 rfl rfl ?_
      refine x_iload_n (pc := 9) K dX0_oneToTintLast_9 2 rfl rfl ?_
      refine x_pcallSz (pc := 10) (n := 2) K (c_X0_has l D cI cJ cZ cA u1 x2 _ h) rfl rfl gX0_oneToTintLast_X0_has rfl (by decide +kernel) ⟨Nat.le_of_ble_eq_true rfl, Nat.le_of_ble_eq_true rfl⟩ rfl (av := [.int u1, .int x2]) rfl (Nat.le_of_ble_eq_true rfl) dX0_oneToTintLast_10 ⟨Nat.le_of_ble_eq_true rfl, Nat.le_of_ble_eq_true rfl⟩ (fun r1 u9 h => ?_)
      refine x_if_eq (pc := 13) K dX0_oneToTintLast_13 (tgt := 30) (by decide) (fun c9 => ?_) (fun c9 => ?_)
      · have h := h.1 c9
        refine x_iinc (v := x2 + (1 : Int32)) (lv' := [(0, .ref a_near), (1, .int u1), (2, .int (x2 + (1 : Int32)))]) (pc := 30) K dX0_oneToTintLast_30 (k := 2) rfl rfl (by decide) rfl ?_
        refine x_goto (pc := 33) K dX0_oneToTintLast_33 (tgt := 2) (by decide) ?_
        exact ih (x2 + (1 : Int32)) h k0 k1
      · have h := h.2 c9
        refine x_aload_n (pc := 16) K dX0_oneToTintLast_16 0 rfl rfl ?_
        refine x_aload_n (pc := 17) K dX0_oneToTintLast_17 0 rfl rfl ?_
        refine x_iload_n (pc := 18) K dX0_oneToTintLast_18 2 rfl rfl ?_
        have g9 := h.1
        replace h := h.2
        refine x_iald (pc := 19) K 0 0 rfl rfl g9 dX0_oneToTintLast_19 ?_
        clear g9
        refine x_iload_n (pc := 20) K dX0_oneToTintLast_20 1 rfl rfl ?_
        refine x_iand (pc := 21) K dX0_oneToTintLast_21 ?_
        refine x_callSz (pc := 22) (n := 2) K (c_X0_areAllNeighbours l D cI cJ cZ cA a_near ((near x2.toNatClampNeg) &&& u1) near _ h) rfl rfl gX0_oneToTintLast_X0_areAllNeighbours rfl (by decide +kernel) ⟨Nat.le_of_ble_eq_true rfl, Nat.le_of_ble_eq_true rfl⟩ rfl (av := [.ref a_near, .int ((near x2.toNatClampNeg) &&& u1)]) rfl (Nat.le_of_ble_eq_true rfl) [0] [] (wr := []) rfl rfl rfl rfl (by decide) dX0_oneToTintLast_22 ⟨Nat.le_of_ble_eq_true rfl, Nat.le_of_ble_eq_true rfl⟩ (fun r2 u9 h => ?_)
        refine x_wsub (ws' := [(a_near, .inl (cI, 10, .inl near))]) [0] rfl rfl ?_
        refine x_if_eq (pc := 25) K dX0_oneToTintLast_25 (tgt := 30) (by decide) (fun c9 => ?_) (fun c9 => ?_)
        · have h := h.1 c9
          refine x_iinc (v := x2 + (1 : Int32)) (lv' := [(0, .ref a_near), (1, .int u1), (2, .int (x2 + (1 : Int32)))]) (pc := 30) K dX0_oneToTintLast_30 (k := 2) rfl rfl (by decide) rfl ?_
          refine x_goto (pc := 33) K dX0_oneToTintLast_33 (tgt := 2) (by decide) ?_
          exact ih (x2 + (1 : Int32)) h k0 k1
        · have h := h.2 c9
          refine x_keep [false, false, true] rfl ?_
          exact k1 x2 h
set_option maxHeartbeats 4000000 in
set_option maxRecDepth 100000 in
theorem c_X0_oneToTintLast (l : Launch) (D : va_G) (cI cJ cZ cA : ClassId) (a_near : Nat) (p1 : Int32) (near : Nat → Int32) (P : Int32 → Prop) (h : q_X0_oneToTintLast p1 near P) : xMi l yX0_oneToTintLast wsX0_oneToTintLast rm_X0_oneToTintLast D vwCl (xtys cI cJ cZ cA) [(a_near, .inl (cI, 10, .inl near))] [.ref a_near, .int p1] (σ := Unit) (fun _ => [(a_near, .inl (cI, 10, .inl near))]) (fun r _ => P r) := by
  refine xMi_of (cc := cX0_oneToTintLast) (maxL := 3) (by decide) rfl (Nat.le_of_ble_eq_true rfl) ?_
  intro X K hE
  have K : xk X l rm_X0_oneToTintLast D vwCl (xtys cI cJ cZ cA) cX0_oneToTintLast RX0 wsX0_oneToTintLast 3 := K
  unfold q_X0_oneToTintLast at h
  refine x_iconst (v := (0)) (pc := 0) K dX0_oneToTintLast_0 (by decide) ?_
  refine x_istore_n (lv' := [(0, .ref a_near), (1, .int p1), (2, .int (0 : Int32))]) (pc := 1) K dX0_oneToTintLast_1 rfl (by decide) rfl ?_
  obtain ⟨n3, h⟩ := h
  refine w_X0_oneToTintLast_L2 K p1 near _ _ n3 (0 : Int32) h (fun  h => ?_) (fun v4 h => ?_)
  · refine x_iconst (v := (-1)) (pc := 36) K dX0_oneToTintLast_36 (by decide) ?_
    exact hE (-1 : Int32) () _ _ h dX0_oneToTintLast_37
  · refine x_iload_n (pc := 28) K dX0_oneToTintLast_28 0 rfl rfl ?_
    exact hE v4 () _ _ h dX0_oneToTintLast_29
abbrev rm_X0_firstWithStranger : Room := { frames := 9, cells := 0, slots := 0, locals := 160 }
def q_X0_firstWithStranger_L2 (u1 : Int32) (near : Nat → Int32) (P0 : Prop) (P1 : Int32 → Prop) : Nat → Int32 → Prop
  | 0, _ => False
  | n + 1, x2 => (((9 : Int32) ≤ x2 → P0) ∧ (¬ (9 : Int32) ≤ x2 → q_X0_has u1 x2 (fun (r1 : Int32) => ((r1 = (0 : Int32) → q_X0_firstWithStranger_L2 u1 near P0 P1 n (x2 + (1 : Int32))) ∧ (¬ r1 = (0 : Int32) → xin x2 10 = true ∧ ((((u1 &&& ((near x2.toNatClampNeg) ^^^ (-1 : Int32))) &&& (((1 : Int32) <<< (x2 &&& 31)) ^^^ (-1 : Int32))) = (0 : Int32) → q_X0_firstWithStranger_L2 u1 near P0 P1 n (x2 + (1 : Int32))) ∧ (¬ ((u1 &&& ((near x2.toNatClampNeg) ^^^ (-1 : Int32))) &&& (((1 : Int32) <<< (x2 &&& 31)) ^^^ (-1 : Int32))) = (0 : Int32) → P1 x2)))))))
def q_X0_firstWithStranger (p1 : Int32) (near : Nat → Int32) (P : Int32 → Prop) : Prop := (∃ n2 : Nat, q_X0_firstWithStranger_L2 p1 near (P (9 : Int32)) (fun (v3 : Int32) => P v3) n2 (0 : Int32))
set_option maxHeartbeats 4000000 in
set_option maxRecDepth 100000 in
theorem w_X0_firstWithStranger_L2 {X : xC} {l : Launch} {D : va_G} {cI cJ cZ cA : ClassId} {a_near : Nat} (K : xk X l rm_X0_firstWithStranger D vwCl (xtys cI cJ cZ cA) cX0_firstWithStranger RX0 wsX0_firstWithStranger 3) (u1 : Int32) (near : Nat → Int32) (P0 : Prop) (P1 : Int32 → Prop) : ∀ (n : Nat) (x2 : Int32), q_X0_firstWithStranger_L2 u1 near P0 P1 n x2 → (P0 → xw X 0 0 40 [] [] [(a_near, .inl (cI, 10, .inl near))]) → (∀ (z0 : Int32), P1 z0 → xw X 0 0 32 [(2, .int z0)] [] [(a_near, .inl (cI, 10, .inl near))]) → xw X 0 0 2 [(0, .ref a_near), (1, .int u1), (2, .int x2)] [] [(a_near, .inl (cI, 10, .inl near))] := by
  intro n
  induction n with
  | zero =>
    intro x2 h
    rw [q_X0_firstWithStranger_L2] at h
    exact h.elim
  | succ n ih =>
    intro x2 h k0 k1
    rw [q_X0_firstWithStranger_L2] at h
    refine x_iload_n (pc := 2) K dX0_firstWithStranger_2 2 rfl rfl ?_
    refine x_bipush (v := (9)) (pc := 3) K dX0_firstWithStranger_3 (by decide) ?_
    refine x_icmp_ge (pc := 5) K dX0_firstWithStranger_5 (tgt := 40) (by decide) (fun c9 => ?_) (fun c9 => ?_)
    · have h := h.1 c9
      refine x_keep [false, false, false] rfl ?_
      exact k0  h
    · have h := h.2 c9
      refine x_iload_n (pc := 8) K dX0_firstWithStranger_8 1 rfl rfl ?_
      refine x_iload_n (pc := 9) K dX0_firstWithStranger_9 2 rfl rfl ?_
      refine x_pcallSz (pc := 10) (n := 2) K (c_X0_has l D cI cJ cZ cA u1 x2 _ h) rfl rfl gX0_firstWithStranger_X0_has rfl (by decide +kernel) ⟨Nat.le_of_ble_eq_true rfl, Nat.le_of_ble_eq_true rfl⟩ rfl (av := [.int u1, .int x2]) rfl (Nat.le_of_ble_eq_true rfl) dX0_firstWithStranger_10 ⟨Nat.le_of_ble_eq_true rfl, Nat.le_of_ble_eq_true rfl⟩ (fun r1 u9 h => ?_)
      refine x_if_eq (pc := 13) K dX0_firstWithStranger_13 (tgt := 34) (by decide) (fun c9 => ?_) (fun c9 => ?_)
      · have h := h.1 c9
        refine x_iinc (v := x2 + (1 : Int32)) (lv' := [(0, .ref a_near), (1, .int u1), (2, .int (x2 + (1 : Int32)))]) (pc := 34) K dX0_firstWithStranger_34 (k := 2) rfl rfl (by decide) rfl ?_
        refine x_goto (pc := 37) K dX0_firstWithStranger_37 (tgt := 2) (by decide) ?_
        exact ih (x2 + (1 : Int32)) h k0 k1
      · have h := h.2 c9
        refine x_iload_n (pc := 16) K dX0_firstWithStranger_16 1 rfl rfl ?_
        refine x_aload_n (pc := 17) K dX0_firstWithStranger_17 0 rfl rfl ?_
        refine x_iload_n (pc := 18) K dX0_firstWithStranger_18 2 rfl rfl ?_
        have g9 := h.1
        replace h := h.2
        refine x_iald (pc := 19) K 0 0 rfl rfl g9 dX0_firstWithStranger_19 ?_
        clear g9
        refine x_iconst (v := (-1)) (pc := 20) K dX0_firstWithStranger_20 (by decide) ?_
        refine x_ixor (pc := 21) K dX0_firstWithStranger_21 ?_
        refine x_iand (pc := 22) K dX0_firstWithStranger_22 ?_
        refine x_iconst (v := (1)) (pc := 23) K dX0_firstWithStranger_23 (by decide) ?_
        refine x_iload_n (pc := 24) K dX0_firstWithStranger_24 2 rfl rfl ?_
        refine x_ishl (pc := 25) K dX0_firstWithStranger_25 ?_
        refine x_iconst (v := (-1)) (pc := 26) K dX0_firstWithStranger_26 (by decide) ?_
        refine x_ixor (pc := 27) K dX0_firstWithStranger_27 ?_
        refine x_iand (pc := 28) K dX0_firstWithStranger_28 ?_
        refine x_if_eq (pc := 29) K dX0_firstWithStranger_29 (tgt := 34) (by decide) (fun c9 => ?_) (fun c9 => ?_)
        · have h := h.1 c9
          refine x_iinc (v := x2 + (1 : Int32)) (lv' := [(0, .ref a_near), (1, .int u1), (2, .int (x2 + (1 : Int32)))]) (pc := 34) K dX0_firstWithStranger_34 (k := 2) rfl rfl (by decide) rfl ?_
          refine x_goto (pc := 37) K dX0_firstWithStranger_37 (tgt := 2) (by decide) ?_
          exact ih (x2 + (1 : Int32)) h k0 k1
        · have h := h.2 c9
          refine x_keep [false, false, true] rfl ?_
          exact k1 x2 h
set_option maxHeartbeats 4000000 in
set_option maxRecDepth 100000 in
theorem c_X0_firstWithStranger (l : Launch) (D : va_G) (cI cJ cZ cA : ClassId) (a_near : Nat) (p1 : Int32) (near : Nat → Int32) (P : Int32 → Prop) (h : q_X0_firstWithStranger p1 near P) : xMi l yX0_firstWithStranger wsX0_firstWithStranger rm_X0_firstWithStranger D vwCl (xtys cI cJ cZ cA) [(a_near, .inl (cI, 10, .inl near))] [.ref a_near, .int p1] (σ := Unit) (fun _ => [(a_near, .inl (cI, 10, .inl near))]) (fun r _ => P r) := by
  refine xMi_of (cc := cX0_firstWithStranger) (maxL := 3) (by decide) rfl (Nat.le_of_ble_eq_true rfl) ?_
  intro X K hE
  have K : xk X l rm_X0_firstWithStranger D vwCl (xtys cI cJ cZ cA) cX0_firstWithStranger RX0 wsX0_firstWithStranger 3 := K
  unfold q_X0_firstWithStranger at h
  refine x_iconst (v := (0)) (pc := 0) K dX0_firstWithStranger_0 (by decide) ?_
  refine x_istore_n (lv' := [(0, .ref a_near), (1, .int p1), (2, .int (0 : Int32))]) (pc := 1) K dX0_firstWithStranger_1 rfl (by decide) rfl ?_
  obtain ⟨n2, h⟩ := h
  refine w_X0_firstWithStranger_L2 K p1 near _ _ n2 (0 : Int32) h (fun  h => ?_) (fun v3 h => ?_)
  · refine x_bipush (v := (9)) (pc := 40) K dX0_firstWithStranger_40 (by decide) ?_
    exact hE (9 : Int32) () _ _ h dX0_firstWithStranger_42
  · refine x_iload_n (pc := 32) K dX0_firstWithStranger_32 0 rfl rfl ?_
    exact hE v3 () _ _ h dX0_firstWithStranger_33
abbrev rm_X0_firstOf : Room := { frames := 9, cells := 0, slots := 0, locals := 160 }
def q_X0_firstOf_L2 (u0 : Int32) (P0 : Prop) (P1 : Int32 → Prop) : Nat → Int32 → Prop
  | 0, _ => False
  | n + 1, x1 => (((9 : Int32) ≤ x1 → P0) ∧ (¬ (9 : Int32) ≤ x1 → q_X0_has u0 x1 (fun (r1 : Int32) => ((r1 = (0 : Int32) → q_X0_firstOf_L2 u0 P0 P1 n (x1 + (1 : Int32))) ∧ (¬ r1 = (0 : Int32) → P1 x1)))))
def q_X0_firstOf (p0 : Int32) (P : Int32 → Prop) : Prop := (∃ n2 : Nat, q_X0_firstOf_L2 p0 (P (9 : Int32)) (fun (v3 : Int32) => P v3) n2 (0 : Int32))
set_option maxHeartbeats 4000000 in
set_option maxRecDepth 100000 in
theorem w_X0_firstOf_L2 {X : xC} {l : Launch} {D : va_G} {cI cJ cZ cA : ClassId} (K : xk X l rm_X0_firstOf D vwCl (xtys cI cJ cZ cA) cX0_firstOf RX0 wsX0_firstOf 2) (u0 : Int32) (P0 : Prop) (P1 : Int32 → Prop) : ∀ (n : Nat) (x1 : Int32), q_X0_firstOf_L2 u0 P0 P1 n x1 → (P0 → xw X 0 0 24 [] [] []) → (∀ (z0 : Int32), P1 z0 → xw X 0 0 16 [(1, .int z0)] [] []) → xw X 0 0 2 [(0, .int u0), (1, .int x1)] [] [] := by
  intro n
  induction n with
  | zero =>
    intro x1 h
    rw [q_X0_firstOf_L2] at h
    exact h.elim
  | succ n ih =>
    intro x1 h k0 k1
    rw [q_X0_firstOf_L2] at h
    refine x_iload_n (pc := 2) K dX0_firstOf_2 1 rfl rfl ?_
    refine x_bipush (v := (9)) (pc := 3) K dX0_firstOf_3 (by decide) ?_
    refine x_icmp_ge (pc := 5) K dX0_firstOf_5 (tgt := 24) (by decide) (fun c9 => ?_) (fun c9 => ?_)
    · have h := h.1 c9
      refine x_keep [false, false] rfl ?_
      exact k0  h
    · have h := h.2 c9
      refine x_iload_n (pc := 8) K dX0_firstOf_8 0 rfl rfl ?_
      refine x_iload_n (pc := 9) K dX0_firstOf_9 1 rfl rfl ?_
      refine x_pcallSz (pc := 10) (n := 2) K (c_X0_has l D cI cJ cZ cA u0 x1 _ h) rfl rfl gX0_firstOf_X0_has rfl (by decide +kernel) ⟨Nat.le_of_ble_eq_true rfl, Nat.le_of_ble_eq_true rfl⟩ rfl (av := [.int u0, .int x1]) rfl (Nat.le_of_ble_eq_true rfl) dX0_firstOf_10 ⟨Nat.le_of_ble_eq_true rfl, Nat.le_of_ble_eq_true rfl⟩ (fun r1 u9 h => ?_)
      refine x_if_eq (pc := 13) K dX0_firstOf_13 (tgt := 18) (by decide) (fun c9 => ?_) (fun c9 => ?_)
      · have h := h.1 c9
        refine x_iinc (v := x1 + (1 : Int32)) (lv' := [(0, .int u0), (1, .int (x1 + (1 : Int32)))]) (pc := 18) K dX0_firstOf_18 (k := 1) rfl rfl (by decide) rfl ?_
        refine x_goto (pc := 21) K dX0_firstOf_21 (tgt := 2) (by decide) ?_
        exact ih (x1 + (1 : Int32)) h k0 k1
      · have h := h.2 c9
        refine x_keep [false, true] rfl ?_
        exact k1 x1 h
set_option maxHeartbeats 4000000 in
set_option maxRecDepth 100000 in
theorem c_X0_firstOf (l : Launch) (D : va_G) (cI cJ cZ cA : ClassId) (p0 : Int32) (P : Int32 → Prop) (h : q_X0_firstOf p0 P) : xMi l yX0_firstOf wsX0_firstOf rm_X0_firstOf D vwCl (xtys cI cJ cZ cA) [] [.int p0] (σ := Unit) (fun _ => []) (fun r _ => P r) := by
  refine xMi_of (cc := cX0_firstOf) (maxL := 2) (by decide) rfl (Nat.le_of_ble_eq_true rfl) ?_
  intro X K hE
  have K : xk X l rm_X0_firstOf D vwCl (xtys cI cJ cZ cA) cX0_firstOf RX0 wsX0_firstOf 2 := K
  unfold q_X0_firstOf at h
  refine x_iconst (v := (0)) (pc := 0) K dX0_firstOf_0 (by decide) ?_
  refine x_istore_n (lv' := [(0, .int p0), (1, .int (0 : Int32))]) (pc := 1) K dX0_firstOf_1 rfl (by decide) rfl ?_
  obtain ⟨n2, h⟩ := h
  refine w_X0_firstOf_L2 K p0 _ _ n2 (0 : Int32) h (fun  h => ?_) (fun v3 h => ?_)
  · refine x_bipush (v := (9)) (pc := 24) K dX0_firstOf_24 (by decide) ?_
    exact hE (9 : Int32) () _ _ h dX0_firstOf_26
  · refine x_iload_n (pc := 16) K dX0_firstOf_16 0 rfl rfl ?_
    exact hE v3 () _ _ h dX0_firstOf_17
abbrev rm_X0_makeOne : Room := { frames := 9, cells := 0, slots := 0, locals := 160 }
def q_X0_makeOne_L3 (u2 : Int32) (u3 : Int32) (near : Nat → Int32) (P0 : (Nat → Int32) → Prop) : Nat → Int32 → (Nat → Int32) → Prop
  | 0, _, _ => False
  | n + 1, x4, after => (((10 : Int32) ≤ x4 → P0 after) ∧ (¬ (10 : Int32) ≤ x4 → xin x4 10 = true ∧ q_X0_has (near x4.toNatClampNeg) u3 (fun (r1 : Int32) => ((r1 = (0 : Int32) → xin x4 10 = true ∧ xin x4 10 = true ∧ q_X0_makeOne_L3 u2 u3 near P0 n (x4 + (1 : Int32)) (upd after x4.toNatClampNeg (near x4.toNatClampNeg))) ∧ (¬ r1 = (0 : Int32) → xin x4 10 = true ∧ xin x4 10 = true ∧ q_X0_makeOne_L3 u2 u3 near P0 n (x4 + (1 : Int32)) (upd after x4.toNatClampNeg ((near x4.toNatClampNeg) ||| ((1 : Int32) <<< (u2 &&& 31)))))))))
def q_X0_makeOne (p2 : Int32) (p3 : Int32) (near : Nat → Int32) (after : Nat → Int32) (P : (Nat → Int32) → Prop) : Prop := (∃ n4 : Nat, q_X0_makeOne_L3 p2 p3 near (fun (v5 : Nat → Int32) => xin p2 10 = true ∧ xin p3 10 = true ∧ xin p2 10 = true ∧ P (upd v5 p2.toNatClampNeg ((near p2.toNatClampNeg) ||| (near p3.toNatClampNeg)))) n4 (0 : Int32) after)
set_option maxHeartbeats 4000000 in
set_option maxRecDepth 100000 in
theorem w_X0_makeOne_L3 {X : xC} {l : Launch} {D : va_G} {cI cJ cZ cA : ClassId} {a_near : Nat} {a_after : Nat} (K : xk X l rm_X0_makeOne D vwCl (xtys cI cJ cZ cA) cX0_makeOne RX0 wsX0_makeOne 5) (u2 : Int32) (u3 : Int32) (near : Nat → Int32) (P0 : (Nat → Int32) → Prop) : ∀ (n : Nat) (x4 : Int32) (after : Nat → Int32), q_X0_makeOne_L3 u2 u3 near P0 n x4 after → (∀ (z0 : Nat → Int32), P0 z0 → xw X 0 0 46 [(0, .ref a_near), (1, .ref a_after), (2, .int u2), (3, .int u3)] [] [(a_near, .inl (cI, 10, .inl near)), (a_after, .inl (cI, 10, .inl z0))]) → xw X 0 0 3 [(0, .ref a_near), (1, .ref a_after), (2, .int u2), (3, .int u3), (4, .int x4)] [] [(a_near, .inl (cI, 10, .inl near)), (a_after, .inl (cI, 10, .inl after))] := by
  intro n
  induction n with
  | zero =>
    intro x4 after h
    rw [q_X0_makeOne_L3] at h
    exact h.elim
  | succ n ih =>
    intro x4 after h k0
    rw [q_X0_makeOne_L3] at h
    refine x_iload (pc := 3) K dX0_makeOne_3 4 rfl ?_
    refine x_bipush (v := (10)) (pc := 5) K dX0_makeOne_5 (by decide) ?_
    refine x_icmp_ge (pc := 7) K dX0_makeOne_7 (tgt := 46) (by decide) (fun c9 => ?_) (fun c9 => ?_)
    · have h := h.1 c9
      refine x_keep [true, true, true, true, false] rfl ?_
      exact k0 after h
    · have h := h.2 c9
      refine x_aload_n (pc := 10) K dX0_makeOne_10 1 rfl rfl ?_
      refine x_iload (pc := 11) K dX0_makeOne_11 4 rfl ?_
      refine x_aload_n (pc := 13) K dX0_makeOne_13 0 rfl rfl ?_
      refine x_iload (pc := 14) K dX0_makeOne_14 4 rfl ?_
      have g9 := h.1
      replace h := h.2
      refine x_iald (pc := 16) K 0 0 rfl rfl g9 dX0_makeOne_16 ?_
      clear g9
      refine x_iload_n (pc := 17) K dX0_makeOne_17 3 rfl rfl ?_
      refine x_pcallSz (pc := 18) (n := 2) K (c_X0_has l D cI cJ cZ cA (near x4.toNatClampNeg) u3 _ h) rfl rfl gX0_makeOne_X0_has rfl (by decide +kernel) ⟨Nat.le_of_ble_eq_true rfl, Nat.le_of_ble_eq_true rfl⟩ rfl (av := [.int (near x4.toNatClampNeg), .int u3]) rfl (Nat.le_of_ble_eq_true rfl) dX0_makeOne_18 ⟨Nat.le_of_ble_eq_true rfl, Nat.le_of_ble_eq_true rfl⟩ (fun r1 u9 h => ?_)
      refine x_if_eq (pc := 21) K dX0_makeOne_21 (tgt := 35) (by decide) (fun c9 => ?_) (fun c9 => ?_)
      · have h := h.1 c9
        refine x_aload_n (pc := 35) K dX0_makeOne_35 0 rfl rfl ?_
        refine x_iload (pc := 36) K dX0_makeOne_36 4 rfl ?_
        have g9 := h.1
        replace h := h.2
        refine x_iald (pc := 38) K 0 0 rfl rfl g9 dX0_makeOne_38 ?_
        clear g9
        have g9 := h.1
        replace h := h.2
        refine x_iast (ws' := [(a_near, .inl (cI, 10, .inl near)), (a_after, .inl (cI, 10, .inl (upd after x4.toNatClampNeg (near x4.toNatClampNeg))))]) (pc := 39) K 1 0 rfl rfl rfl g9 dX0_makeOne_39 ?_
        clear g9
        refine x_iinc (v := x4 + (1 : Int32)) (lv' := [(0, .ref a_near), (1, .ref a_after), (2, .int u2), (3, .int u3), (4, .int (x4 + (1 : Int32)))]) (pc := 40) K dX0_makeOne_40 (k := 4) rfl rfl (by decide) rfl ?_
        refine x_goto (pc := 43) K dX0_makeOne_43 (tgt := 3) (by decide) ?_
        exact ih (x4 + (1 : Int32)) (upd after x4.toNatClampNeg (near x4.toNatClampNeg)) h k0
      · have h := h.2 c9
        refine x_aload_n (pc := 24) K dX0_makeOne_24 0 rfl rfl ?_
        refine x_iload (pc := 25) K dX0_makeOne_25 4 rfl ?_
        have g9 := h.1
        replace h := h.2
        refine x_iald (pc := 27) K 0 0 rfl rfl g9 dX0_makeOne_27 ?_
        clear g9
        refine x_iconst (v := (1)) (pc := 28) K dX0_makeOne_28 (by decide) ?_
        refine x_iload_n (pc := 29) K dX0_makeOne_29 2 rfl rfl ?_
        refine x_ishl (pc := 30) K dX0_makeOne_30 ?_
        refine x_ior (pc := 31) K dX0_makeOne_31 ?_
        refine x_goto (pc := 32) K dX0_makeOne_32 (tgt := 39) (by decide) ?_
        have g9 := h.1
        replace h := h.2
        refine x_iast (ws' := [(a_near, .inl (cI, 10, .inl near)), (a_after, .inl (cI, 10, .inl (upd after x4.toNatClampNeg ((near x4.toNatClampNeg) ||| ((1 : Int32) <<< (u2 &&& 31))))))]) (pc := 39) K 1 0 rfl rfl rfl g9 dX0_makeOne_39 ?_
        clear g9
        refine x_iinc (v := x4 + (1 : Int32)) (lv' := [(0, .ref a_near), (1, .ref a_after), (2, .int u2), (3, .int u3), (4, .int (x4 + (1 : Int32)))]) (pc := 40) K dX0_makeOne_40 (k := 4) rfl rfl (by decide) rfl ?_
        refine x_goto (pc := 43) K dX0_makeOne_43 (tgt := 3) (by decide) ?_
        exact ih (x4 + (1 : Int32)) (upd after x4.toNatClampNeg ((near x4.toNatClampNeg) ||| ((1 : Int32) <<< (u2 &&& 31)))) h k0
set_option maxHeartbeats 4000000 in
set_option maxRecDepth 100000 in
theorem c_X0_makeOne (l : Launch) (D : va_G) (cI cJ cZ cA : ClassId) (a_near : Nat) (a_after : Nat) (p2 : Int32) (p3 : Int32) (near : Nat → Int32) (after : Nat → Int32) (P : (Nat → Int32) → Prop) (h : q_X0_makeOne p2 p3 near after P) : xMv l yX0_makeOne wsX0_makeOne rm_X0_makeOne D vwCl (xtys cI cJ cZ cA) [(a_near, .inl (cI, 10, .inl near)), (a_after, .inl (cI, 10, .inl after))] [.ref a_near, .ref a_after, .int p2, .int p3] (σ := (Nat → Int32)) (fun u => [(a_near, .inl (cI, 10, .inl near)), (a_after, .inl (cI, 10, .inl u))]) (fun u => P u) := by
  refine xMv_of (cc := cX0_makeOne) (maxL := 5) (by decide) rfl (Nat.le_of_ble_eq_true rfl) ?_
  intro X K hE
  have K : xk X l rm_X0_makeOne D vwCl (xtys cI cJ cZ cA) cX0_makeOne RX0 wsX0_makeOne 5 := K
  unfold q_X0_makeOne at h
  refine x_iconst (v := (0)) (pc := 0) K dX0_makeOne_0 (by decide) ?_
  refine x_istore (lv' := [(0, .ref a_near), (1, .ref a_after), (2, .int p2), (3, .int p3), (4, .int (0 : Int32))]) (pc := 1) K dX0_makeOne_1 (by decide) rfl ?_
  obtain ⟨n4, h⟩ := h
  refine w_X0_makeOne_L3 K p2 p3 near _ n4 (0 : Int32) after h (fun v5 h => ?_)
  refine x_aload_n (pc := 46) K dX0_makeOne_46 1 rfl rfl ?_
  refine x_iload_n (pc := 47) K dX0_makeOne_47 2 rfl rfl ?_
  refine x_aload_n (pc := 48) K dX0_makeOne_48 0 rfl rfl ?_
  refine x_iload_n (pc := 49) K dX0_makeOne_49 2 rfl rfl ?_
  have g9 := h.1
  replace h := h.2
  refine x_iald (pc := 50) K 0 0 rfl rfl g9 dX0_makeOne_50 ?_
  clear g9
  refine x_aload_n (pc := 51) K dX0_makeOne_51 0 rfl rfl ?_
  refine x_iload_n (pc := 52) K dX0_makeOne_52 3 rfl rfl ?_
  have g9 := h.1
  replace h := h.2
  refine x_iald (pc := 53) K 0 0 rfl rfl g9 dX0_makeOne_53 ?_
  clear g9
  refine x_ior (pc := 54) K dX0_makeOne_54 ?_
  have g9 := h.1
  replace h := h.2
  refine x_iast (ws' := [(a_near, .inl (cI, 10, .inl near)), (a_after, .inl (cI, 10, .inl (upd v5 p2.toNatClampNeg ((near p2.toNatClampNeg) ||| (near p3.toNatClampNeg)))))]) (pc := 55) K 1 0 rfl rfl rfl g9 dX0_makeOne_55 ?_
  clear g9
  exact hE (upd v5 p2.toNatClampNeg ((near p2.toNatClampNeg) ||| (near p3.toNatClampNeg))) _ _ h dX0_makeOne_56
abbrev rm_X0_checkCell : Room := { frames := 8, cells := 1, slots := 6, locals := 120 }
theorem kX0_checkCell_0 : ∀ w ∈ Cond.classLink RX0 178 "java/lang/IndexOutOfBoundsException" :: Cond.initialized "java/lang/IndexOutOfBoundsException" :: (vx_atS RX0 182 "java/lang/IndexOutOfBoundsException" ["java/lang/RuntimeException", "java/lang/Exception"]).filter goodWord, w ∈ wsX0_checkCell := by decide +kernel
def q_X0_checkCell (p0 : Int32) (p1 : Int32) (P : Prop) (T : String → Prop) : Prop := ((p0 < (0 : Int32) → T "java/lang/IndexOutOfBoundsException") ∧ (¬ p0 < (0 : Int32) → (((6 : Int32) ≤ p0 → T "java/lang/IndexOutOfBoundsException") ∧ (¬ (6 : Int32) ≤ p0 → ((p1 < (0 : Int32) → T "java/lang/IndexOutOfBoundsException") ∧ (¬ p1 < (0 : Int32) → ((p1 < (6 : Int32) → P) ∧ (¬ p1 < (6 : Int32) → T "java/lang/IndexOutOfBoundsException"))))))))
set_option maxHeartbeats 4000000 in
set_option maxRecDepth 100000 in
theorem c_X0_checkCell (l : Launch) (D : va_G) (cI cJ cZ cA : ClassId) (hst : l.stackTraces = false) (p0 : Int32) (p1 : Int32) (P : Prop) (T : String → Prop) (h : q_X0_checkCell p0 p1 P T) : xTv l yX0_checkCell wsX0_checkCell rm_X0_checkCell D vwCl (xtys cI cJ cZ cA) [] [.int p0, .int p1] RX0 [(180, "there is no such row or column")] (σ := Unit) (fun _ => []) (fun _ => P) T 1 6 := by
  refine xTv_of (cc := cX0_checkCell) (maxL := 2) (by decide) rfl (Nat.le_of_ble_eq_true rfl) ?_
  intro X K hE hth
  have K : xk X l rm_X0_checkCell D vwCl (xtys cI cJ cZ cA) cX0_checkCell RX0 wsX0_checkCell 2 := K
  unfold q_X0_checkCell at h
  refine x_iload_n (pc := 0) K dX0_checkCell_0 0 rfl rfl ?_
  refine x_if_lt (pc := 1) K dX0_checkCell_1 (tgt := 20) (by decide) (fun c9 => ?_) (fun c9 => ?_)
  · have h := h.1 c9
    refine x_keep [false, false] rfl ?_
    refine x_throw (pc := 20) (cls := "java/lang/IndexOutOfBoundsException") (text := "there is no such row or column") (names := ["java/lang/RuntimeException", "java/lang/Exception"]) (ik := 178) (is := 180) (ic := 182) K hth hst h (by decide) (by decide +kernel) (by decide +kernel) kX0_checkCell_0 (by decide +kernel) (by decide +kernel) dX0_checkCell_20 dX0_checkCell_23 dX0_checkCell_24 dX0_checkCell_26 dX0_checkCell_29 (by decide) (by decide) (Nat.le_of_ble_eq_true rfl) (Nat.le_of_ble_eq_true rfl) (Nat.le_of_ble_eq_true rfl) (Nat.le_of_ble_eq_true rfl)
  · have h := h.2 c9
    refine x_iload_n (pc := 4) K dX0_checkCell_4 0 rfl rfl ?_
    refine x_bipush (v := (6)) (pc := 5) K dX0_checkCell_5 (by decide) ?_
    refine x_icmp_ge (pc := 7) K dX0_checkCell_7 (tgt := 20) (by decide) (fun c9 => ?_) (fun c9 => ?_)
    · have h := h.1 c9
      refine x_keep [false, false] rfl ?_
      refine x_throw (pc := 20) (cls := "java/lang/IndexOutOfBoundsException") (text := "there is no such row or column") (names := ["java/lang/RuntimeException", "java/lang/Exception"]) (ik := 178) (is := 180) (ic := 182) K hth hst h (by decide) (by decide +kernel) (by decide +kernel) kX0_checkCell_0 (by decide +kernel) (by decide +kernel) dX0_checkCell_20 dX0_checkCell_23 dX0_checkCell_24 dX0_checkCell_26 dX0_checkCell_29 (by decide) (by decide) (Nat.le_of_ble_eq_true rfl) (Nat.le_of_ble_eq_true rfl) (Nat.le_of_ble_eq_true rfl) (Nat.le_of_ble_eq_true rfl)
    · have h := h.2 c9
      refine x_keep [false, true] rfl ?_
      refine x_iload_n (pc := 10) K dX0_checkCell_10 0 rfl rfl ?_
      refine x_if_lt (pc := 11) K dX0_checkCell_11 (tgt := 20) (by decide) (fun c9 => ?_) (fun c9 => ?_)
      · have h := h.1 c9
        refine x_keep [false] rfl ?_
        refine x_throw (pc := 20) (cls := "java/lang/IndexOutOfBoundsException") (text := "there is no such row or column") (names := ["java/lang/RuntimeException", "java/lang/Exception"]) (ik := 178) (is := 180) (ic := 182) K hth hst h (by decide) (by decide +kernel) (by decide +kernel) kX0_checkCell_0 (by decide +kernel) (by decide +kernel) dX0_checkCell_20 dX0_checkCell_23 dX0_checkCell_24 dX0_checkCell_26 dX0_checkCell_29 (by decide) (by decide) (Nat.le_of_ble_eq_true rfl) (Nat.le_of_ble_eq_true rfl) (Nat.le_of_ble_eq_true rfl) (Nat.le_of_ble_eq_true rfl)
      · have h := h.2 c9
        refine x_iload_n (pc := 14) K dX0_checkCell_14 0 rfl rfl ?_
        refine x_bipush (v := (6)) (pc := 15) K dX0_checkCell_15 (by decide) ?_
        refine x_icmp_lt (pc := 17) K dX0_checkCell_17 (tgt := 30) (by decide) (fun c9 => ?_) (fun c9 => ?_)
        · have h := h.1 c9
          refine x_keep [false] rfl ?_
          refine x_widen (k := 1) (n := 6) (Nat.le_of_ble_eq_true rfl) (Nat.le_of_ble_eq_true rfl) ?_
          exact hE () _ _ h dX0_checkCell_30
        · have h := h.2 c9
          refine x_keep [false] rfl ?_
          refine x_throw (pc := 20) (cls := "java/lang/IndexOutOfBoundsException") (text := "there is no such row or column") (names := ["java/lang/RuntimeException", "java/lang/Exception"]) (ik := 178) (is := 180) (ic := 182) K hth hst h (by decide) (by decide +kernel) (by decide +kernel) kX0_checkCell_0 (by decide +kernel) (by decide +kernel) dX0_checkCell_20 dX0_checkCell_23 dX0_checkCell_24 dX0_checkCell_26 dX0_checkCell_29 (by decide) (by decide) (Nat.le_of_ble_eq_true rfl) (Nat.le_of_ble_eq_true rfl) (Nat.le_of_ble_eq_true rfl) (Nat.le_of_ble_eq_true rfl)
