/-! the same methods where nothing is thrown: no new cell -/
abbrev rm0_X0_checkCell : Room := { frames := 8, cells := 0, slots := 0, locals := 120 }
set_option maxHeartbeats 4000000 in
set_option maxRecDepth 100000 in
theorem c0_X0_checkCell (l : Launch) (D : va_G) (cI cJ cZ cA : ClassId) (p0 : Int32) (p1 : Int32) (P : Prop) (h : q_X0_checkCell p0 p1 P (fun _ => False)) : xMv l yX0_checkCell wsX0_checkCell rm0_X0_checkCell D vwCl (xtys cI cJ cZ cA) [] [.int p0, .int p1] (σ := Unit) (fun _ => []) (fun _ => P) := by
  refine xMv_of (cc := cX0_checkCell) (maxL := 2) (by decide) rfl (Nat.le_of_ble_eq_true rfl) ?_
  intro X K hE
  have K : xk X l rm0_X0_checkCell D vwCl (xtys cI cJ cZ cA) cX0_checkCell RX0 wsX0_checkCell 2 := K
  unfold q_X0_checkCell at h
  refine x_iload_n (pc := 0) K dX0_checkCell_0 0 rfl rfl ?_
  refine x_if_lt (pc := 1) K dX0_checkCell_1 (tgt := 20) (by decide) (fun c9 => ?_) (fun c9 => ?_)
  · have h := h.1 c9
    refine x_keep [false, false] rfl ?_
    exact False.elim h
  · have h := h.2 c9
    refine x_iload_n (pc := 4) K dX0_checkCell_4 0 rfl rfl ?_
    refine x_bipush (v := (6)) (pc := 5) K dX0_checkCell_5 (by decide) ?_
    refine x_icmp_ge (pc := 7) K dX0_checkCell_7 (tgt := 20) (by decide) (fun c9 => ?_) (fun c9 => ?_)
    · have h := h.1 c9
      refine x_keep [false, false] rfl ?_
      exact False.elim h
    · have h := h.2 c9
      refine x_keep [false, true] rfl ?_
      refine x_iload_n (pc := 10) K dX0_checkCell_10 0 rfl rfl ?_
      refine x_if_lt (pc := 11) K dX0_checkCell_11 (tgt := 20) (by decide) (fun c9 => ?_) (fun c9 => ?_)
      · have h := h.1 c9
        refine x_keep [false] rfl ?_
        exact False.elim h
      · have h := h.2 c9
        refine x_iload_n (pc := 14) K dX0_checkCell_14 0 rfl rfl ?_
        refine x_bipush (v := (6)) (pc := 15) K dX0_checkCell_15 (by decide) ?_
        refine x_icmp_lt (pc := 17) K dX0_checkCell_17 (tgt := 30) (by decide) (fun c9 => ?_) (fun c9 => ?_)
        · have h := h.1 c9
          refine x_keep [false] rfl ?_
          exact hE () _ _ h dX0_checkCell_30
        · have h := h.2 c9
          refine x_keep [false] rfl ?_
          exact False.elim h
abbrev rm0_X0_checkCountry : Room := { frames := 8, cells := 0, slots := 0, locals := 120 }
set_option maxHeartbeats 4000000 in
set_option maxRecDepth 100000 in
theorem c0_X0_checkCountry (l : Launch) (D : va_G) (cI cJ cZ cA : ClassId) (p0 : Int32) (P : Prop) (h : q_X0_checkCountry p0 P (fun _ => False)) : xMv l yX0_checkCountry wsX0_checkCountry rm0_X0_checkCountry D vwCl (xtys cI cJ cZ cA) [] [.int p0] (σ := Unit) (fun _ => []) (fun _ => P) := by
  refine xMv_of (cc := cX0_checkCountry) (maxL := 1) (by decide) rfl (Nat.le_of_ble_eq_true rfl) ?_
  intro X K hE
  have K : xk X l rm0_X0_checkCountry D vwCl (xtys cI cJ cZ cA) cX0_checkCountry RX0 wsX0_checkCountry 1 := K
  unfold q_X0_checkCountry at h
  refine x_iload_n (pc := 0) K dX0_checkCountry_0 0 rfl rfl ?_
  refine x_if_lt (pc := 1) K dX0_checkCountry_1 (tgt := 10) (by decide) (fun c9 => ?_) (fun c9 => ?_)
  · have h := h.1 c9
    refine x_keep [false] rfl ?_
    exact False.elim h
  · have h := h.2 c9
    refine x_iload_n (pc := 4) K dX0_checkCountry_4 0 rfl rfl ?_
    refine x_bipush (v := (10)) (pc := 5) K dX0_checkCountry_5 (by decide) ?_
    refine x_icmp_lt (pc := 7) K dX0_checkCountry_7 (tgt := 20) (by decide) (fun c9 => ?_) (fun c9 => ?_)
    · have h := h.1 c9
      refine x_keep [false] rfl ?_
      exact hE () _ _ h dX0_checkCountry_20
    · have h := h.2 c9
      refine x_keep [false] rfl ?_
      exact False.elim h
abbrev rm0_X0_checkNumberOfTints : Room := { frames := 8, cells := 0, slots := 0, locals := 120 }
set_option maxHeartbeats 4000000 in
set_option maxRecDepth 100000 in
theorem c0_X0_checkNumberOfTints (l : Launch) (D : va_G) (cI cJ cZ cA : ClassId) (p0 : Int32) (P : Prop) (h : q_X0_checkNumberOfTints p0 P (fun _ => False)) : xMv l yX0_checkNumberOfTints wsX0_checkNumberOfTints rm0_X0_checkNumberOfTints D vwCl (xtys cI cJ cZ cA) [] [.int p0] (σ := Unit) (fun _ => []) (fun _ => P) := by
  refine xMv_of (cc := cX0_checkNumberOfTints) (maxL := 1) (by decide) rfl (Nat.le_of_ble_eq_true rfl) ?_
  intro X K hE
  have K : xk X l rm0_X0_checkNumberOfTints D vwCl (xtys cI cJ cZ cA) cX0_checkNumberOfTints RX0 wsX0_checkNumberOfTints 1 := K
  unfold q_X0_checkNumberOfTints at h
  refine x_iload_n (pc := 0) K dX0_checkNumberOfTints_0 0 rfl rfl ?_
  refine x_if_lt (pc := 1) K dX0_checkNumberOfTints_1 (tgt := 10) (by decide) (fun c9 => ?_) (fun c9 => ?_)
  · have h := h.1 c9
    refine x_keep [false] rfl ?_
    exact False.elim h
  · have h := h.2 c9
    refine x_iload_n (pc := 4) K dX0_checkNumberOfTints_4 0 rfl rfl ?_
    refine x_bipush (v := (10)) (pc := 5) K dX0_checkNumberOfTints_5 (by decide) ?_
    refine x_icmp_le (pc := 7) K dX0_checkNumberOfTints_7 (tgt := 20) (by decide) (fun c9 => ?_) (fun c9 => ?_)
    · have h := h.1 c9
      refine x_keep [false] rfl ?_
      exact hE () _ _ h dX0_checkNumberOfTints_20
    · have h := h.2 c9
      refine x_keep [false] rfl ?_
      exact False.elim h
abbrev rm0_X0_countryAt : Room := { frames := 9, cells := 0, slots := 0, locals := 160 }
set_option maxHeartbeats 4000000 in
set_option maxRecDepth 100000 in
theorem c0_X0_countryAt (l : Launch) (D : va_G) (cI cJ cZ cA : ClassId) (V : Nat → Nat) (p1 : Int32) (p2 : Int32) (land : Nat → Int64) (there : Int32) (near : Nat → Int32) (worn : Nat → Int32) (trial : Nat → Int32) (fits : Nat → Int32) (ways : Nat → Int64) (P : Int32 → Prop) (h : q_X0_countryAt p1 p2 land P (fun _ => False)) : xMi l yX0_countryAt wsX0_countryAt rm0_X0_countryAt D vwCl (xtys cI cJ cZ cA) (wX0 cI cJ cZ cA V land there near worn trial fits ways) [.ref (V 0), .int p1, .int p2] (σ := Unit) (fun _ => (wX0 cI cJ cZ cA V land there near worn trial fits ways)) (fun r _ => P r) := by
  refine xMi_of (cc := cX0_countryAt) (maxL := 3) (by decide) rfl (Nat.le_of_ble_eq_true rfl) ?_
  intro X K hE
  have K : xk X l rm0_X0_countryAt D vwCl (xtys cI cJ cZ cA) cX0_countryAt RX0 wsX0_countryAt 3 := K
  unfold q_X0_countryAt at h
  refine x_iload_n (pc := 0) K dX0_countryAt_0 1 rfl rfl ?_
  refine x_iload_n (pc := 1) K dX0_countryAt_1 2 rfl rfl ?_
  refine x_pcallSv (pc := 2) (n := 2) K (c0_X0_checkCell l D cI cJ cZ cA p1 p2 _ h) rfl rfl gX0_countryAt_X0_checkCell rfl (by decide +kernel) ⟨Nat.le_of_ble_eq_true rfl, Nat.le_of_ble_eq_true rfl⟩ rfl (av := [.int p1, .int p2]) rfl (Nat.le_of_ble_eq_true rfl) dX0_countryAt_2 ⟨Nat.le_of_ble_eq_true rfl, Nat.le_of_ble_eq_true rfl⟩ (fun u9 h => ?_)
  refine x_aload_n (pc := 5) K dX0_countryAt_5 0 rfl rfl ?_
  refine x_iload_n (pc := 6) K dX0_countryAt_6 1 rfl rfl ?_
  refine x_iload_n (pc := 7) K dX0_countryAt_7 2 rfl rfl ?_
  refine x_iload_n (pc := 8) K dX0_countryAt_8 1 rfl rfl ?_
  refine x_iload_n (pc := 9) K dX0_countryAt_9 2 rfl rfl ?_
  refine x_pcallSl (pc := 10) (n := 4) K (c_X0_block l D cI cJ cZ cA p1 p2 p1 p2 _ h) rfl rfl gX0_countryAt_X0_block rfl (by decide +kernel) ⟨Nat.le_of_ble_eq_true rfl, Nat.le_of_ble_eq_true rfl⟩ rfl (av := [.int p1, .int p2, .int p1, .int p2]) rfl (Nat.le_of_ble_eq_true rfl) dX0_countryAt_10 ⟨Nat.le_of_ble_eq_true rfl, Nat.le_of_ble_eq_true rfl⟩ (fun r1 u9 h => ?_)
  refine x_callVi (pc := 13) (n := 1) K (c_X0_ownerOf l D cI cJ cZ cA V r1 land there near worn trial fits ways _ h) rfl rfl gX0_countryAt_X0_ownerOf rfl (by decide +kernel) ⟨Nat.le_of_ble_eq_true rfl, Nat.le_of_ble_eq_true rfl⟩ rfl (av := [.long r1]) (b := V 0) (ci := 0) (q0 := 0) rfl rfl rfl (Nat.le_of_ble_eq_true rfl) [0, 1, 2, 3, 4, 5, 6] [] (wr := []) rfl rfl rfl rfl (by decide) dX0_countryAt_13 ⟨Nat.le_of_ble_eq_true rfl, Nat.le_of_ble_eq_true rfl⟩ (fun r2 u9 h => ?_)
  refine x_ws (ws' := (wX0 cI cJ cZ cA V land there near worn trial fits ways)) rfl ?_
  exact hE r2 () _ _ h dX0_countryAt_16
abbrev rm0_X0_area : Room := { frames := 9, cells := 0, slots := 0, locals := 160 }
set_option maxHeartbeats 4000000 in
set_option maxRecDepth 100000 in
theorem c0_X0_area (l : Launch) (D : va_G) (cI cJ cZ cA : ClassId) (V : Nat → Nat) (p1 : Int32) (land : Nat → Int64) (there : Int32) (near : Nat → Int32) (worn : Nat → Int32) (trial : Nat → Int32) (fits : Nat → Int32) (ways : Nat → Int64) (P : Int32 → Prop) (h : q_X0_area p1 land P (fun _ => False)) : xMi l yX0_area wsX0_area rm0_X0_area D vwCl (xtys cI cJ cZ cA) (wX0 cI cJ cZ cA V land there near worn trial fits ways) [.ref (V 0), .int p1] (σ := Unit) (fun _ => (wX0 cI cJ cZ cA V land there near worn trial fits ways)) (fun r _ => P r) := by
  refine xMi_of (cc := cX0_area) (maxL := 2) (by decide) rfl (Nat.le_of_ble_eq_true rfl) ?_
  intro X K hE
  have K : xk X l rm0_X0_area D vwCl (xtys cI cJ cZ cA) cX0_area RX0 wsX0_area 2 := K
  unfold q_X0_area at h
  refine x_iload_n (pc := 0) K dX0_area_0 1 rfl rfl ?_
  refine x_pcallSv (pc := 1) (n := 1) K (c0_X0_checkCountry l D cI cJ cZ cA p1 _ h) rfl rfl gX0_area_X0_checkCountry rfl (by decide +kernel) ⟨Nat.le_of_ble_eq_true rfl, Nat.le_of_ble_eq_true rfl⟩ rfl (av := [.int p1]) rfl (Nat.le_of_ble_eq_true rfl) dX0_area_1 ⟨Nat.le_of_ble_eq_true rfl, Nat.le_of_ble_eq_true rfl⟩ (fun u9 h => ?_)
  refine x_aload_n (pc := 4) K dX0_area_4 0 rfl rfl ?_
  refine x_get (pc := 5) (ci := 0) (C := RX0) (T := TX0) (N := 8) K (inX0_area) 0 rfl rfl 0 (by decide) kX0_area_0 rfl rfl dX0_area_5 ?_
  refine x_iload_n (pc := 8) K dX0_area_8 1 rfl rfl ?_
  have g9 := h.1
  replace h := h.2
  refine x_lald (pc := 9) K 1 1 rfl rfl g9 dX0_area_9 ?_
  clear g9
  refine x_pcallSi (pc := 10) (n := 1) K (c_J13_bitCount_95d88 l D cI cJ cZ cA (land p1.toNatClampNeg) _ h) rfl rfl gX0_area_J13_bitCount_95d88 rfl (by decide +kernel) ⟨Nat.le_of_ble_eq_true rfl, Nat.le_of_ble_eq_true rfl⟩ rfl (av := [.long (land p1.toNatClampNeg)]) rfl (Nat.le_of_ble_eq_true rfl) dX0_area_10 ⟨Nat.le_of_ble_eq_true rfl, Nat.le_of_ble_eq_true rfl⟩ (fun r1 u9 h => ?_)
  exact hE r1 () _ _ h dX0_area_13
abbrev rm0_X0_pieces : Room := { frames := 13, cells := 0, slots := 0, locals := 320 }
set_option maxHeartbeats 4000000 in
set_option maxRecDepth 100000 in
theorem c0_X0_pieces (l : Launch) (D : va_G) (cI cJ cZ cA : ClassId) (V : Nat → Nat) (p1 : Int32) (land : Nat → Int64) (there : Int32) (near : Nat → Int32) (worn : Nat → Int32) (trial : Nat → Int32) (fits : Nat → Int32) (ways : Nat → Int64) (P : Int32 → Prop) (h : q_X0_pieces p1 land P (fun _ => False)) : xMi l yX0_pieces wsX0_pieces rm0_X0_pieces D vwCl (xtys cI cJ cZ cA) (wX0 cI cJ cZ cA V land there near worn trial fits ways) [.ref (V 0), .int p1] (σ := Unit) (fun _ => (wX0 cI cJ cZ cA V land there near worn trial fits ways)) (fun r _ => P r) := by
  refine xMi_of (cc := cX0_pieces) (maxL := 2) (by decide) rfl (Nat.le_of_ble_eq_true rfl) ?_
  intro X K hE
  have K : xk X l rm0_X0_pieces D vwCl (xtys cI cJ cZ cA) cX0_pieces RX0 wsX0_pieces 2 := K
  unfold q_X0_pieces at h
  refine x_iload_n (pc := 0) K dX0_pieces_0 1 rfl rfl ?_
  refine x_pcallSv (pc := 1) (n := 1) K (c0_X0_checkCountry l D cI cJ cZ cA p1 _ h) rfl rfl gX0_pieces_X0_checkCountry rfl (by decide +kernel) ⟨Nat.le_of_ble_eq_true rfl, Nat.le_of_ble_eq_true rfl⟩ rfl (av := [.int p1]) rfl (Nat.le_of_ble_eq_true rfl) dX0_pieces_1 ⟨Nat.le_of_ble_eq_true rfl, Nat.le_of_ble_eq_true rfl⟩ (fun u9 h => ?_)
  refine x_aload_n (pc := 4) K dX0_pieces_4 0 rfl rfl ?_
  refine x_get (pc := 5) (ci := 0) (C := RX0) (T := TX0) (N := 8) K (inX0_pieces) 0 rfl rfl 0 (by decide) kX0_pieces_0 rfl rfl dX0_pieces_5 ?_
  refine x_iload_n (pc := 8) K dX0_pieces_8 1 rfl rfl ?_
  have g9 := h.1
  replace h := h.2
  refine x_lald (pc := 9) K 1 1 rfl rfl g9 dX0_pieces_9 ?_
  clear g9
  refine x_pcallSi (pc := 10) (n := 1) K (c_X0_countPieces l D cI cJ cZ cA (land p1.toNatClampNeg) _ h) rfl rfl gX0_pieces_X0_countPieces rfl (by decide +kernel) ⟨Nat.le_of_ble_eq_true rfl, Nat.le_of_ble_eq_true rfl⟩ rfl (av := [.long (land p1.toNatClampNeg)]) rfl (Nat.le_of_ble_eq_true rfl) dX0_pieces_10 ⟨Nat.le_of_ble_eq_true rfl, Nat.le_of_ble_eq_true rfl⟩ (fun r1 u9 h => ?_)
  exact hE r1 () _ _ h dX0_pieces_13
abbrev rm0_X0_largestPiece : Room := { frames := 12, cells := 0, slots := 0, locals := 280 }
set_option maxHeartbeats 4000000 in
set_option maxRecDepth 100000 in
theorem w0_X0_largestPiece_L16 {X : xC} {l : Launch} {D : va_G} {cI cJ cZ cA : ClassId} {V : Nat → Nat} (K : xk X l rm0_X0_largestPiece D vwCl (xtys cI cJ cZ cA) cX0_largestPiece RX0 wsX0_largestPiece 8) (land : Nat → Int64) (there : Int32) (near : Nat → Int32) (worn : Nat → Int32) (trial : Nat → Int32) (fits : Nat → Int32) (ways : Nat → Int64) (P0 : Int32 → Prop) : ∀ (n : Nat) (x2 : Int32) (x3 : Int64) (x5 : Int32), q_X0_largestPiece_L16 P0 n x2 x3 x5 → (∀ (z0 : Int32), P0 z0 → xw X 0 0 60 [(2, .int z0)] [] (wX0 cI cJ cZ cA V land there near worn trial fits ways)) → xw X 0 0 16 [(2, .int x2), (3, .long x3), (5, .int x5)] [] (wX0 cI cJ cZ cA V land there near worn trial fits ways) := by
  intro n
  induction n with
  | zero =>
    intro x2 x3 x5 h
    rw [q_X0_largestPiece_L16] at h
    exact h.elim
  | succ n ih =>
    intro x2 x3 x5 h k0
    rw [q_X0_largestPiece_L16] at h
    refine x_iload (pc := 16) K dX0_largestPiece_16 2 rfl ?_
    refine x_bipush (v := (36)) (pc := 18) K dX0_largestPiece_18 (by decide) ?_
    refine x_icmp_ge (pc := 20) K dX0_largestPiece_20 (tgt := 60) (by decide) (fun c9 => ?_) (fun c9 => ?_)
    · have h := h.1 c9
      refine x_keep [true, false, false] rfl ?_
      exact k0 x2 h
    · have h := h.2 c9
      refine x_lload_n (pc := 23) K dX0_largestPiece_23 1 rfl rfl ?_
      refine x_lconst (v := (0)) (pc := 24) K dX0_largestPiece_24 (by decide) ?_
      refine x_lcmp (pc := 25) K dX0_largestPiece_25 ?_
      refine x_if_eq (pc := 26) K dX0_largestPiece_26 (tgt := 60) (by decide) (fun c9 => ?_) (fun c9 => ?_)
      · have h := h.1 c9
        refine x_keep [true, false, false] rfl ?_
        exact k0 x2 h
      · have h := h.2 c9
        refine x_lload_n (pc := 29) K dX0_largestPiece_29 1 rfl rfl ?_
        refine x_pcallSl (pc := 30) (n := 1) K (c_X0_pieceIn l D cI cJ cZ cA x3 _ h) rfl rfl gX0_largestPiece_X0_pieceIn rfl (by decide +kernel) ⟨Nat.le_of_ble_eq_true rfl, Nat.le_of_ble_eq_true rfl⟩ rfl (av := [.long x3]) rfl (Nat.le_of_ble_eq_true rfl) dX0_largestPiece_30 ⟨Nat.le_of_ble_eq_true rfl, Nat.le_of_ble_eq_true rfl⟩ (fun r2 u9 h => ?_)
        refine x_lstore (lv' := [(2, .int x2), (3, .long x3), (5, .int x5), (6, .long r2)]) (pc := 33) K dX0_largestPiece_33 (by decide) rfl ?_
        refine x_iload_n (pc := 35) K dX0_largestPiece_35 0 rfl rfl ?_
        refine x_lload (pc := 36) K dX0_largestPiece_36 3 rfl ?_
        refine x_pcallSi (pc := 38) (n := 1) K (c_J13_bitCount_95d88 l D cI cJ cZ cA r2 _ h) rfl rfl gX0_largestPiece_J13_bitCount_95d88 rfl (by decide +kernel) ⟨Nat.le_of_ble_eq_true rfl, Nat.le_of_ble_eq_true rfl⟩ rfl (av := [.long r2]) rfl (Nat.le_of_ble_eq_true rfl) dX0_largestPiece_38 ⟨Nat.le_of_ble_eq_true rfl, Nat.le_of_ble_eq_true rfl⟩ (fun r3 u9 h => ?_)
        refine x_mmax (pc := 41) K kX0_largestPiece_1 kX0_largestPiece_2 kX0_largestPiece_3 kX0_largestPiece_4 ⟨Nat.le_of_ble_eq_true rfl, Nat.le_of_ble_eq_true rfl⟩ ⟨Nat.le_of_ble_eq_true rfl, Nat.le_of_ble_eq_true rfl⟩ dX0_largestPiece_41 ?_
        obtain ⟨y4, ey4, h⟩ := xl_o h
        refine x_topi ey4 ?_
        clear ey4
        refine x_istore_n (lv' := [(2, .int y4), (3, .long x3), (5, .int x5), (6, .long r2)]) (pc := 44) K dX0_largestPiece_44 rfl (by decide) rfl ?_
        refine x_lload_n (pc := 45) K dX0_largestPiece_45 1 rfl rfl ?_
        refine x_lload (pc := 46) K dX0_largestPiece_46 3 rfl ?_
        refine x_ldc2 (pc := 48) (v := (-1)) K kX0_largestPiece_5 dX0_largestPiece_48 ?_
        refine x_lxor (pc := 51) K dX0_largestPiece_51 ?_
        refine x_land (pc := 52) K dX0_largestPiece_52 ?_
        obtain ⟨y5, ey5, h⟩ := xl_o h
        refine x_topl ey5 ?_
        clear ey5
        refine x_lstore_n (lv' := [(2, .int y4), (3, .long y5), (5, .int x5), (6, .long r2)]) (pc := 53) K dX0_largestPiece_53 rfl (by decide) rfl ?_
        refine x_iinc (v := x5 + (1 : Int32)) (lv' := [(2, .int y4), (3, .long y5), (5, .int (x5 + (1 : Int32))), (6, .long r2)]) (pc := 54) K dX0_largestPiece_54 (k := 2) rfl rfl (by decide) rfl ?_
        refine x_goto (pc := 57) K dX0_largestPiece_57 (tgt := 16) (by decide) ?_
        refine x_keep [true, true, true, false] rfl ?_
        exact ih y4 y5 (x5 + (1 : Int32)) h k0
set_option maxHeartbeats 4000000 in
set_option maxRecDepth 100000 in
theorem c0_X0_largestPiece (l : Launch) (D : va_G) (cI cJ cZ cA : ClassId) (V : Nat → Nat) (p1 : Int32) (land : Nat → Int64) (there : Int32) (near : Nat → Int32) (worn : Nat → Int32) (trial : Nat → Int32) (fits : Nat → Int32) (ways : Nat → Int64) (P : Int32 → Prop) (h : q_X0_largestPiece p1 land P (fun _ => False)) : xMi l yX0_largestPiece wsX0_largestPiece rm0_X0_largestPiece D vwCl (xtys cI cJ cZ cA) (wX0 cI cJ cZ cA V land there near worn trial fits ways) [.ref (V 0), .int p1] (σ := Unit) (fun _ => (wX0 cI cJ cZ cA V land there near worn trial fits ways)) (fun r _ => P r) := by
  refine xMi_of (cc := cX0_largestPiece) (maxL := 8) (by decide) rfl (Nat.le_of_ble_eq_true rfl) ?_
  intro X K hE
  have K : xk X l rm0_X0_largestPiece D vwCl (xtys cI cJ cZ cA) cX0_largestPiece RX0 wsX0_largestPiece 8 := K
  unfold q_X0_largestPiece at h
  refine x_iload_n (pc := 0) K dX0_largestPiece_0 1 rfl rfl ?_
  refine x_pcallSv (pc := 1) (n := 1) K (c0_X0_checkCountry l D cI cJ cZ cA p1 _ h) rfl rfl gX0_largestPiece_X0_checkCountry rfl (by decide +kernel) ⟨Nat.le_of_ble_eq_true rfl, Nat.le_of_ble_eq_true rfl⟩ rfl (av := [.int p1]) rfl (Nat.le_of_ble_eq_true rfl) dX0_largestPiece_1 ⟨Nat.le_of_ble_eq_true rfl, Nat.le_of_ble_eq_true rfl⟩ (fun u9 h => ?_)
  refine x_iconst (v := (0)) (pc := 4) K dX0_largestPiece_4 (by decide) ?_
  refine x_istore_n (lv' := [(0, .ref (V 0)), (1, .int p1), (2, .int (0 : Int32))]) (pc := 5) K dX0_largestPiece_5 rfl (by decide) rfl ?_
  refine x_aload_n (pc := 6) K dX0_largestPiece_6 0 rfl rfl ?_
  refine x_get (pc := 7) (ci := 0) (C := RX0) (T := TX0) (N := 8) K (inX0_largestPiece) 0 rfl rfl 0 (by decide) kX0_largestPiece_0 rfl rfl dX0_largestPiece_7 ?_
  refine x_iload_n (pc := 10) K dX0_largestPiece_10 1 rfl rfl ?_
  have g9 := h.1
  replace h := h.2
  refine x_lald (pc := 11) K 1 1 rfl rfl g9 dX0_largestPiece_11 ?_
  clear g9
  obtain ⟨y1, ey1, h⟩ := xl_o h
  refine x_topl ey1 ?_
  clear ey1
  refine x_lstore_n (lv' := [(0, .ref (V 0)), (1, .int p1), (2, .int (0 : Int32)), (3, .long y1)]) (pc := 12) K dX0_largestPiece_12 rfl (by decide) rfl ?_
  refine x_iconst (v := (0)) (pc := 13) K dX0_largestPiece_13 (by decide) ?_
  refine x_istore (lv' := [(0, .ref (V 0)), (1, .int p1), (2, .int (0 : Int32)), (3, .long y1), (5, .int (0 : Int32))]) (pc := 14) K dX0_largestPiece_14 (by decide) rfl ?_
  refine x_keep [false, false, true, true, true] rfl ?_
  obtain ⟨n6, h⟩ := h
  refine w0_X0_largestPiece_L16 K land there near worn trial fits ways _ n6 (0 : Int32) y1 (0 : Int32) h (fun v7 h => ?_)
  refine x_iload_n (pc := 60) K dX0_largestPiece_60 0 rfl rfl ?_
  exact hE v7 () _ _ h dX0_largestPiece_61
abbrev rm0_X0_neighbours : Room := { frames := 9, cells := 0, slots := 0, locals := 160 }
set_option maxHeartbeats 4000000 in
set_option maxRecDepth 100000 in
theorem c0_X0_neighbours (l : Launch) (D : va_G) (cI cJ cZ cA : ClassId) (V : Nat → Nat) (p1 : Int32) (land : Nat → Int64) (there : Int32) (near : Nat → Int32) (worn : Nat → Int32) (trial : Nat → Int32) (fits : Nat → Int32) (ways : Nat → Int64) (P : Int32 → Prop) (h : q_X0_neighbours p1 near P (fun _ => False)) : xMi l yX0_neighbours wsX0_neighbours rm0_X0_neighbours D vwCl (xtys cI cJ cZ cA) (wX0 cI cJ cZ cA V land there near worn trial fits ways) [.ref (V 0), .int p1] (σ := Unit) (fun _ => (wX0 cI cJ cZ cA V land there near worn trial fits ways)) (fun r _ => P r) := by
  refine xMi_of (cc := cX0_neighbours) (maxL := 2) (by decide) rfl (Nat.le_of_ble_eq_true rfl) ?_
  intro X K hE
  have K : xk X l rm0_X0_neighbours D vwCl (xtys cI cJ cZ cA) cX0_neighbours RX0 wsX0_neighbours 2 := K
  unfold q_X0_neighbours at h
  refine x_iload_n (pc := 0) K dX0_neighbours_0 1 rfl rfl ?_
  refine x_pcallSv (pc := 1) (n := 1) K (c0_X0_checkCountry l D cI cJ cZ cA p1 _ h) rfl rfl gX0_neighbours_X0_checkCountry rfl (by decide +kernel) ⟨Nat.le_of_ble_eq_true rfl, Nat.le_of_ble_eq_true rfl⟩ rfl (av := [.int p1]) rfl (Nat.le_of_ble_eq_true rfl) dX0_neighbours_1 ⟨Nat.le_of_ble_eq_true rfl, Nat.le_of_ble_eq_true rfl⟩ (fun u9 h => ?_)
  refine x_aload_n (pc := 4) K dX0_neighbours_4 0 rfl rfl ?_
  refine x_get (pc := 5) (ci := 0) (C := RX0) (T := TX0) (N := 8) K (inX0_neighbours) 0 rfl rfl 2 (by decide) kX0_neighbours_0 rfl rfl dX0_neighbours_5 ?_
  refine x_iload_n (pc := 8) K dX0_neighbours_8 1 rfl rfl ?_
  have g9 := h.1
  replace h := h.2
  refine x_iald (pc := 9) K 2 0 rfl rfl g9 dX0_neighbours_9 ?_
  clear g9
  refine x_pcallSi (pc := 10) (n := 1) K (c_J6_bitCount_0f7a4 l D cI cJ cZ cA (near p1.toNatClampNeg) _ h) rfl rfl gX0_neighbours_J6_bitCount_0f7a4 rfl (by decide +kernel) ⟨Nat.le_of_ble_eq_true rfl, Nat.le_of_ble_eq_true rfl⟩ rfl (av := [.int (near p1.toNatClampNeg)]) rfl (Nat.le_of_ble_eq_true rfl) dX0_neighbours_10 ⟨Nat.le_of_ble_eq_true rfl, Nat.le_of_ble_eq_true rfl⟩ (fun r1 u9 h => ?_)
  exact hE r1 () _ _ h dX0_neighbours_13
abbrev rm0_X0_border : Room := { frames := 9, cells := 0, slots := 0, locals := 160 }
set_option maxHeartbeats 4000000 in
set_option maxRecDepth 100000 in
theorem c0_X0_border (l : Launch) (D : va_G) (cI cJ cZ cA : ClassId) (V : Nat → Nat) (p1 : Int32) (p2 : Int32) (land : Nat → Int64) (there : Int32) (near : Nat → Int32) (worn : Nat → Int32) (trial : Nat → Int32) (fits : Nat → Int32) (ways : Nat → Int64) (P : Int32 → Prop) (h : q_X0_border p1 p2 land P (fun _ => False)) : xMi l yX0_border wsX0_border rm0_X0_border D vwCl (xtys cI cJ cZ cA) (wX0 cI cJ cZ cA V land there near worn trial fits ways) [.ref (V 0), .int p1, .int p2] (σ := Unit) (fun _ => (wX0 cI cJ cZ cA V land there near worn trial fits ways)) (fun r _ => P r) := by
  refine xMi_of (cc := cX0_border) (maxL := 7) (by decide) rfl (Nat.le_of_ble_eq_true rfl) ?_
  intro X K hE
  have K : xk X l rm0_X0_border D vwCl (xtys cI cJ cZ cA) cX0_border RX0 wsX0_border 7 := K
  unfold q_X0_border at h
  refine x_iload_n (pc := 0) K dX0_border_0 1 rfl rfl ?_
  refine x_pcallSv (pc := 1) (n := 1) K (c0_X0_checkCountry l D cI cJ cZ cA p1 _ h) rfl rfl gX0_border_X0_checkCountry rfl (by decide +kernel) ⟨Nat.le_of_ble_eq_true rfl, Nat.le_of_ble_eq_true rfl⟩ rfl (av := [.int p1]) rfl (Nat.le_of_ble_eq_true rfl) dX0_border_1 ⟨Nat.le_of_ble_eq_true rfl, Nat.le_of_ble_eq_true rfl⟩ (fun u9 h => ?_)
  refine x_iload_n (pc := 4) K dX0_border_4 2 rfl rfl ?_
  refine x_pcallSv (pc := 5) (n := 1) K (c0_X0_checkCountry l D cI cJ cZ cA p2 _ h) rfl rfl gX0_border_X0_checkCountry rfl (by decide +kernel) ⟨Nat.le_of_ble_eq_true rfl, Nat.le_of_ble_eq_true rfl⟩ rfl (av := [.int p2]) rfl (Nat.le_of_ble_eq_true rfl) dX0_border_5 ⟨Nat.le_of_ble_eq_true rfl, Nat.le_of_ble_eq_true rfl⟩ (fun u9 h => ?_)
  refine x_iload_n (pc := 8) K dX0_border_8 1 rfl rfl ?_
  refine x_iload_n (pc := 9) K dX0_border_9 2 rfl rfl ?_
  refine x_icmp_ne (pc := 10) K dX0_border_10 (tgt := 15) (by decide) (fun c9 => ?_) (fun c9 => ?_)
  · have h := h.1 c9
    refine x_aload_n (pc := 15) K dX0_border_15 0 rfl rfl ?_
    refine x_get (pc := 16) (ci := 0) (C := RX0) (T := TX0) (N := 8) K (inX0_border) 0 rfl rfl 0 (by decide) kX0_border_0 rfl rfl dX0_border_16 ?_
    refine x_iload_n (pc := 19) K dX0_border_19 1 rfl rfl ?_
    have g9 := h.1
    replace h := h.2
    refine x_lald (pc := 20) K 1 1 rfl rfl g9 dX0_border_20 ?_
    clear g9
    obtain ⟨y1, ey1, h⟩ := xl_o h
    refine x_topl ey1 ?_
    clear ey1
    refine x_lstore_n (lv' := [(0, .ref (V 0)), (1, .int p1), (2, .int p2), (3, .long y1)]) (pc := 21) K dX0_border_21 rfl (by decide) rfl ?_
    refine x_aload_n (pc := 22) K dX0_border_22 0 rfl rfl ?_
    refine x_get (pc := 23) (ci := 0) (C := RX0) (T := TX0) (N := 8) K (inX0_border) 0 rfl rfl 0 (by decide) kX0_border_0 rfl rfl dX0_border_23 ?_
    refine x_iload_n (pc := 26) K dX0_border_26 2 rfl rfl ?_
    have g9 := h.1
    replace h := h.2
    refine x_lald (pc := 27) K 1 1 rfl rfl g9 dX0_border_27 ?_
    clear g9
    obtain ⟨y2, ey2, h⟩ := xl_o h
    refine x_topl ey2 ?_
    clear ey2
    refine x_lstore (lv' := [(0, .ref (V 0)), (1, .int p1), (2, .int p2), (3, .long y1), (5, .long y2)]) (pc := 28) K dX0_border_28 (by decide) rfl ?_
    refine x_lload_n (pc := 30) K dX0_border_30 3 rfl rfl ?_
    refine x_pcallSl (pc := 31) (n := 1) K (c_X0_above l D cI cJ cZ cA y1 _ h) rfl rfl gX0_border_X0_above rfl (by decide +kernel) ⟨Nat.le_of_ble_eq_true rfl, Nat.le_of_ble_eq_true rfl⟩ rfl (av := [.long y1]) rfl (Nat.le_of_ble_eq_true rfl) dX0_border_31 ⟨Nat.le_of_ble_eq_true rfl, Nat.le_of_ble_eq_true rfl⟩ (fun r3 u9 h => ?_)
    refine x_lload (pc := 34) K dX0_border_34 4 rfl ?_
    refine x_land (pc := 36) K dX0_border_36 ?_
    refine x_pcallSi (pc := 37) (n := 1) K (c_J13_bitCount_95d88 l D cI cJ cZ cA (r3 &&& y2) _ h) rfl rfl gX0_border_J13_bitCount_95d88 rfl (by decide +kernel) ⟨Nat.le_of_ble_eq_true rfl, Nat.le_of_ble_eq_true rfl⟩ rfl (av := [.long (r3 &&& y2)]) rfl (Nat.le_of_ble_eq_true rfl) dX0_border_37 ⟨Nat.le_of_ble_eq_true rfl, Nat.le_of_ble_eq_true rfl⟩ (fun r4 u9 h => ?_)
    refine x_lload_n (pc := 40) K dX0_border_40 3 rfl rfl ?_
    refine x_pcallSl (pc := 41) (n := 1) K (c_X0_below l D cI cJ cZ cA y1 _ h) rfl rfl gX0_border_X0_below rfl (by decide +kernel) ⟨Nat.le_of_ble_eq_true rfl, Nat.le_of_ble_eq_true rfl⟩ rfl (av := [.long y1]) rfl (Nat.le_of_ble_eq_true rfl) dX0_border_41 ⟨Nat.le_of_ble_eq_true rfl, Nat.le_of_ble_eq_true rfl⟩ (fun r5 u9 h => ?_)
    refine x_lload (pc := 44) K dX0_border_44 4 rfl ?_
    refine x_land (pc := 46) K dX0_border_46 ?_
    refine x_pcallSi (pc := 47) (n := 1) K (c_J13_bitCount_95d88 l D cI cJ cZ cA (r5 &&& y2) _ h) rfl rfl gX0_border_J13_bitCount_95d88 rfl (by decide +kernel) ⟨Nat.le_of_ble_eq_true rfl, Nat.le_of_ble_eq_true rfl⟩ rfl (av := [.long (r5 &&& y2)]) rfl (Nat.le_of_ble_eq_true rfl) dX0_border_47 ⟨Nat.le_of_ble_eq_true rfl, Nat.le_of_ble_eq_true rfl⟩ (fun r6 u9 h => ?_)
    refine x_iadd (pc := 50) K dX0_border_50 ?_
    refine x_lload_n (pc := 51) K dX0_border_51 3 rfl rfl ?_
    refine x_pcallSl (pc := 52) (n := 1) K (c_X0_leftOf l D cI cJ cZ cA y1 _ h) rfl rfl gX0_border_X0_leftOf rfl (by decide +kernel) ⟨Nat.le_of_ble_eq_true rfl, Nat.le_of_ble_eq_true rfl⟩ rfl (av := [.long y1]) rfl (Nat.le_of_ble_eq_true rfl) dX0_border_52 ⟨Nat.le_of_ble_eq_true rfl, Nat.le_of_ble_eq_true rfl⟩ (fun r7 u9 h => ?_)
    refine x_lload (pc := 55) K dX0_border_55 4 rfl ?_
    refine x_land (pc := 57) K dX0_border_57 ?_
    refine x_pcallSi (pc := 58) (n := 1) K (c_J13_bitCount_95d88 l D cI cJ cZ cA (r7 &&& y2) _ h) rfl rfl gX0_border_J13_bitCount_95d88 rfl (by decide +kernel) ⟨Nat.le_of_ble_eq_true rfl, Nat.le_of_ble_eq_true rfl⟩ rfl (av := [.long (r7 &&& y2)]) rfl (Nat.le_of_ble_eq_true rfl) dX0_border_58 ⟨Nat.le_of_ble_eq_true rfl, Nat.le_of_ble_eq_true rfl⟩ (fun r8 u9 h => ?_)
    refine x_iadd (pc := 61) K dX0_border_61 ?_
    refine x_lload_n (pc := 62) K dX0_border_62 3 rfl rfl ?_
    refine x_pcallSl (pc := 63) (n := 1) K (c_X0_rightOf l D cI cJ cZ cA y1 _ h) rfl rfl gX0_border_X0_rightOf rfl (by decide +kernel) ⟨Nat.le_of_ble_eq_true rfl, Nat.le_of_ble_eq_true rfl⟩ rfl (av := [.long y1]) rfl (Nat.le_of_ble_eq_true rfl) dX0_border_63 ⟨Nat.le_of_ble_eq_true rfl, Nat.le_of_ble_eq_true rfl⟩ (fun r9 u9 h => ?_)
    refine x_lload (pc := 66) K dX0_border_66 4 rfl ?_
    refine x_land (pc := 68) K dX0_border_68 ?_
    refine x_pcallSi (pc := 69) (n := 1) K (c_J13_bitCount_95d88 l D cI cJ cZ cA (r9 &&& y2) _ h) rfl rfl gX0_border_J13_bitCount_95d88 rfl (by decide +kernel) ⟨Nat.le_of_ble_eq_true rfl, Nat.le_of_ble_eq_true rfl⟩ rfl (av := [.long (r9 &&& y2)]) rfl (Nat.le_of_ble_eq_true rfl) dX0_border_69 ⟨Nat.le_of_ble_eq_true rfl, Nat.le_of_ble_eq_true rfl⟩ (fun r10 u9 h => ?_)
    refine x_iadd (pc := 72) K dX0_border_72 ?_
    exact hE (((r4 + r6) + r8) + r10) () _ _ h dX0_border_73
  · have h := h.2 c9
    refine x_keep [false, false, false] rfl ?_
    refine x_iconst (v := (0)) (pc := 13) K dX0_border_13 (by decide) ?_
    exact hE (0 : Int32) () _ _ h dX0_border_14
abbrev rm0_X0_enclosed : Room := { frames := 11, cells := 0, slots := 0, locals := 240 }
set_option maxHeartbeats 4000000 in
set_option maxRecDepth 100000 in
theorem c0_X0_enclosed (l : Launch) (D : va_G) (cI cJ cZ cA : ClassId) (V : Nat → Nat) (p1 : Int32) (land : Nat → Int64) (there : Int32) (near : Nat → Int32) (worn : Nat → Int32) (trial : Nat → Int32) (fits : Nat → Int32) (ways : Nat → Int64) (P : Int32 → Prop) (h : q_X0_enclosed p1 land P (fun _ => False)) : xMi l yX0_enclosed wsX0_enclosed rm0_X0_enclosed D vwCl (xtys cI cJ cZ cA) (wX0 cI cJ cZ cA V land there near worn trial fits ways) [.ref (V 0), .int p1] (σ := Unit) (fun _ => (wX0 cI cJ cZ cA V land there near worn trial fits ways)) (fun r _ => P r) := by
  refine xMi_of (cc := cX0_enclosed) (maxL := 6) (by decide) rfl (Nat.le_of_ble_eq_true rfl) ?_
  intro X K hE
  have K : xk X l rm0_X0_enclosed D vwCl (xtys cI cJ cZ cA) cX0_enclosed RX0 wsX0_enclosed 6 := K
  unfold q_X0_enclosed at h
  refine x_iload_n (pc := 0) K dX0_enclosed_0 1 rfl rfl ?_
  refine x_pcallSv (pc := 1) (n := 1) K (c0_X0_checkCountry l D cI cJ cZ cA p1 _ h) rfl rfl gX0_enclosed_X0_checkCountry rfl (by decide +kernel) ⟨Nat.le_of_ble_eq_true rfl, Nat.le_of_ble_eq_true rfl⟩ rfl (av := [.int p1]) rfl (Nat.le_of_ble_eq_true rfl) dX0_enclosed_1 ⟨Nat.le_of_ble_eq_true rfl, Nat.le_of_ble_eq_true rfl⟩ (fun u9 h => ?_)
  refine x_ldc2 (pc := 4) (v := (68719476735)) K kX0_enclosed_0 dX0_enclosed_4 ?_
  refine x_aload_n (pc := 7) K dX0_enclosed_7 0 rfl rfl ?_
  refine x_get (pc := 8) (ci := 0) (C := RX0) (T := TX0) (N := 8) K (inX0_enclosed) 0 rfl rfl 0 (by decide) kX0_enclosed_1 rfl rfl dX0_enclosed_8 ?_
  refine x_iload_n (pc := 11) K dX0_enclosed_11 1 rfl rfl ?_
  have g9 := h.1
  replace h := h.2
  refine x_lald (pc := 12) K 1 1 rfl rfl g9 dX0_enclosed_12 ?_
  clear g9
  refine x_ldc2 (pc := 13) (v := (-1)) K kX0_enclosed_2 dX0_enclosed_13 ?_
  refine x_lxor (pc := 16) K dX0_enclosed_16 ?_
  refine x_land (pc := 17) K dX0_enclosed_17 ?_
  obtain ⟨y1, ey1, h⟩ := xl_o h
  refine x_topl ey1 ?_
  clear ey1
  refine x_lstore_n (lv' := [(0, .ref (V 0)), (1, .int p1), (2, .long y1)]) (pc := 18) K dX0_enclosed_18 rfl (by decide) rfl ?_
  refine x_ldc2 (pc := 19) (v := (68208171135)) K kX0_enclosed_3 dX0_enclosed_19 ?_
  refine x_lload_n (pc := 22) K dX0_enclosed_22 2 rfl rfl ?_
  refine x_land (pc := 23) K dX0_enclosed_23 ?_
  refine x_lload_n (pc := 24) K dX0_enclosed_24 2 rfl rfl ?_
  refine x_pcallSl (pc := 25) (n := 2) K (c_X0_reach l D cI cJ cZ cA ((68208171135 : Int64) &&& y1) y1 _ h) rfl rfl gX0_enclosed_X0_reach rfl (by decide +kernel) ⟨Nat.le_of_ble_eq_true rfl, Nat.le_of_ble_eq_true rfl⟩ rfl (av := [.long ((68208171135 : Int64) &&& y1), .long y1]) rfl (Nat.le_of_ble_eq_true rfl) dX0_enclosed_25 ⟨Nat.le_of_ble_eq_true rfl, Nat.le_of_ble_eq_true rfl⟩ (fun r2 u9 h => ?_)
  refine x_lstore (lv' := [(0, .ref (V 0)), (1, .int p1), (2, .long y1), (4, .long r2)]) (pc := 28) K dX0_enclosed_28 (by decide) rfl ?_
  refine x_lload_n (pc := 30) K dX0_enclosed_30 2 rfl rfl ?_
  refine x_lload (pc := 31) K dX0_enclosed_31 3 rfl ?_
  refine x_ldc2 (pc := 33) (v := (-1)) K kX0_enclosed_2 dX0_enclosed_33 ?_
  refine x_lxor (pc := 36) K dX0_enclosed_36 ?_
  refine x_land (pc := 37) K dX0_enclosed_37 ?_
  refine x_pcallSi (pc := 38) (n := 1) K (c_J13_bitCount_95d88 l D cI cJ cZ cA (y1 &&& (r2 ^^^ (-1 : Int64))) _ h) rfl rfl gX0_enclosed_J13_bitCount_95d88 rfl (by decide +kernel) ⟨Nat.le_of_ble_eq_true rfl, Nat.le_of_ble_eq_true rfl⟩ rfl (av := [.long (y1 &&& (r2 ^^^ (-1 : Int64)))]) rfl (Nat.le_of_ble_eq_true rfl) dX0_enclosed_38 ⟨Nat.le_of_ble_eq_true rfl, Nat.le_of_ble_eq_true rfl⟩ (fun r3 u9 h => ?_)
  exact hE r3 () _ _ h dX0_enclosed_41
abbrev rm0_X0_tintOf : Room := { frames := 9, cells := 0, slots := 0, locals := 160 }
set_option maxHeartbeats 4000000 in
set_option maxRecDepth 100000 in
theorem c0_X0_tintOf (l : Launch) (D : va_G) (cI cJ cZ cA : ClassId) (V : Nat → Nat) (p1 : Int32) (land : Nat → Int64) (there : Int32) (near : Nat → Int32) (worn : Nat → Int32) (trial : Nat → Int32) (fits : Nat → Int32) (ways : Nat → Int64) (P : Int32 → Prop) (h : q_X0_tintOf p1 worn P (fun _ => False)) : xMi l yX0_tintOf wsX0_tintOf rm0_X0_tintOf D vwCl (xtys cI cJ cZ cA) (wX0 cI cJ cZ cA V land there near worn trial fits ways) [.ref (V 0), .int p1] (σ := Unit) (fun _ => (wX0 cI cJ cZ cA V land there near worn trial fits ways)) (fun r _ => P r) := by
  refine xMi_of (cc := cX0_tintOf) (maxL := 2) (by decide) rfl (Nat.le_of_ble_eq_true rfl) ?_
  intro X K hE
  have K : xk X l rm0_X0_tintOf D vwCl (xtys cI cJ cZ cA) cX0_tintOf RX0 wsX0_tintOf 2 := K
  unfold q_X0_tintOf at h
  refine x_iload_n (pc := 0) K dX0_tintOf_0 1 rfl rfl ?_
  refine x_pcallSv (pc := 1) (n := 1) K (c0_X0_checkCountry l D cI cJ cZ cA p1 _ h) rfl rfl gX0_tintOf_X0_checkCountry rfl (by decide +kernel) ⟨Nat.le_of_ble_eq_true rfl, Nat.le_of_ble_eq_true rfl⟩ rfl (av := [.int p1]) rfl (Nat.le_of_ble_eq_true rfl) dX0_tintOf_1 ⟨Nat.le_of_ble_eq_true rfl, Nat.le_of_ble_eq_true rfl⟩ (fun u9 h => ?_)
  refine x_aload_n (pc := 4) K dX0_tintOf_4 0 rfl rfl ?_
  refine x_get (pc := 5) (ci := 0) (C := RX0) (T := TX0) (N := 8) K (inX0_tintOf) 0 rfl rfl 3 (by decide) kX0_tintOf_0 rfl rfl dX0_tintOf_5 ?_
  refine x_iload_n (pc := 8) K dX0_tintOf_8 1 rfl rfl ?_
  have g9 := h.1
  replace h := h.2
  refine x_iald (pc := 9) K 3 0 rfl rfl g9 dX0_tintOf_9 ?_
  clear g9
  exact hE (worn p1.toNatClampNeg) () _ _ h dX0_tintOf_10
abbrev rm0_X0_leastFree : Room := { frames := 10, cells := 0, slots := 0, locals := 200 }
set_option maxHeartbeats 4000000 in
set_option maxRecDepth 100000 in
theorem c0_X0_leastFree (l : Launch) (D : va_G) (cI cJ cZ cA : ClassId) (V : Nat → Nat) (p1 : Int32) (land : Nat → Int64) (there : Int32) (near : Nat → Int32) (worn : Nat → Int32) (trial : Nat → Int32) (fits : Nat → Int32) (ways : Nat → Int64) (P : Int32 → Prop) (h : q_X0_leastFree p1 near worn P (fun _ => False)) : xMi l yX0_leastFree wsX0_leastFree rm0_X0_leastFree D vwCl (xtys cI cJ cZ cA) (wX0 cI cJ cZ cA V land there near worn trial fits ways) [.ref (V 0), .int p1] (σ := Unit) (fun _ => (wX0 cI cJ cZ cA V land there near worn trial fits ways)) (fun r _ => P r) := by
  refine xMi_of (cc := cX0_leastFree) (maxL := 2) (by decide) rfl (Nat.le_of_ble_eq_true rfl) ?_
  intro X K hE
  have K : xk X l rm0_X0_leastFree D vwCl (xtys cI cJ cZ cA) cX0_leastFree RX0 wsX0_leastFree 2 := K
  unfold q_X0_leastFree at h
  refine x_iload_n (pc := 0) K dX0_leastFree_0 1 rfl rfl ?_
  refine x_pcallSv (pc := 1) (n := 1) K (c0_X0_checkCountry l D cI cJ cZ cA p1 _ h) rfl rfl gX0_leastFree_X0_checkCountry rfl (by decide +kernel) ⟨Nat.le_of_ble_eq_true rfl, Nat.le_of_ble_eq_true rfl⟩ rfl (av := [.int p1]) rfl (Nat.le_of_ble_eq_true rfl) dX0_leastFree_1 ⟨Nat.le_of_ble_eq_true rfl, Nat.le_of_ble_eq_true rfl⟩ (fun u9 h => ?_)
  refine x_aload_n (pc := 4) K dX0_leastFree_4 0 rfl rfl ?_
  refine x_aload_n (pc := 5) K dX0_leastFree_5 0 rfl rfl ?_
  refine x_get (pc := 6) (ci := 0) (C := RX0) (T := TX0) (N := 8) K (inX0_leastFree) 0 rfl rfl 2 (by decide) kX0_leastFree_0 rfl rfl dX0_leastFree_6 ?_
  refine x_iload_n (pc := 9) K dX0_leastFree_9 1 rfl rfl ?_
  have g9 := h.1
  replace h := h.2
  refine x_iald (pc := 10) K 2 0 rfl rfl g9 dX0_leastFree_10 ?_
  clear g9
  refine x_callVi (pc := 11) (n := 1) K (c_X0_leastFreeBeside l D cI cJ cZ cA V (near p1.toNatClampNeg) land there near worn trial fits ways _ h) rfl rfl gX0_leastFree_X0_leastFreeBeside rfl (by decide +kernel) ⟨Nat.le_of_ble_eq_true rfl, Nat.le_of_ble_eq_true rfl⟩ rfl (av := [.int (near p1.toNatClampNeg)]) (b := V 0) (ci := 0) (q0 := 0) rfl rfl rfl (Nat.le_of_ble_eq_true rfl) [0, 1, 2, 3, 4, 5, 6] [] (wr := []) rfl rfl rfl rfl (by decide) dX0_leastFree_11 ⟨Nat.le_of_ble_eq_true rfl, Nat.le_of_ble_eq_true rfl⟩ (fun r1 u9 h => ?_)
  refine x_ws (ws' := (wX0 cI cJ cZ cA V land there near worn trial fits ways)) rfl ?_
  exact hE r1 () _ _ h dX0_leastFree_14
abbrev rm0_X0_tintings : Room := { frames := 10, cells := 0, slots := 0, locals := 200 }
set_option maxHeartbeats 4000000 in
set_option maxRecDepth 100000 in
theorem w0_X0_tintings_L45 {X : xC} {l : Launch} {D : va_G} {cI cJ cZ cA : ClassId} {V : Nat → Nat} (K : xk X l rm0_X0_tintings D vwCl (xtys cI cJ cZ cA) cX0_tintings RX0 wsX0_tintings 7) (u1 : Int32) (land : Nat → Int64) (there : Int32) (near : Nat → Int32) (worn : Nat → Int32) (trial : Nat → Int32) (fits : Nat → Int32) (P0 : Int64 → (Nat → Int64) → Prop) : ∀ (n : Nat) (x2 : Int64) (x4 : Int64) (x6 : Int32) (ways : Nat → Int64), q_X0_tintings_L45 u1 fits P0 n x2 x4 x6 ways → (∀ (z0 : Int64) (z1 : Nat → Int64), P0 z0 z1 → xw X 0 0 90 [(2, .long z0)] [] (wX0 cI cJ cZ cA V land there near worn trial fits z1)) → xw X 0 0 45 [(0, .ref (V 0)), (1, .int u1), (2, .long x2), (4, .long x4), (6, .int x6)] [] (wX0 cI cJ cZ cA V land there near worn trial fits ways) := by
  intro n
  induction n with
  | zero =>
    intro x2 x4 x6 ways h
    rw [q_X0_tintings_L45] at h
    exact h.elim
  | succ n ih =>
    intro x2 x4 x6 ways h k0
    rw [q_X0_tintings_L45] at h
    refine x_iload (pc := 45) K dX0_tintings_45 4 rfl ?_
    refine x_iload_n (pc := 47) K dX0_tintings_47 1 rfl rfl ?_
    refine x_icmp_ge (pc := 48) K dX0_tintings_48 (tgt := 90) (by decide) (fun c9 => ?_) (fun c9 => ?_)
    · have h := h.1 c9
      refine x_keep [false, false, true, false, false] rfl ?_
      exact k0 x2 ways h
    · have h := h.2 c9
      refine x_iload (pc := 51) K dX0_tintings_51 4 rfl ?_
      refine x_bipush (v := (10)) (pc := 53) K dX0_tintings_53 (by decide) ?_
      refine x_icmp_ge (pc := 55) K dX0_tintings_55 (tgt := 90) (by decide) (fun c9 => ?_) (fun c9 => ?_)
      · have h := h.1 c9
        refine x_keep [false, false, true, false, false] rfl ?_
        exact k0 x2 ways h
      · have h := h.2 c9
        refine x_lload (pc := 58) K dX0_tintings_58 3 rfl ?_
        refine x_iload_n (pc := 60) K dX0_tintings_60 1 rfl rfl ?_
        refine x_iload (pc := 61) K dX0_tintings_61 4 rfl ?_
        refine x_isub (pc := 63) K dX0_tintings_63 ?_
        refine x_i2l (pc := 64) K dX0_tintings_64 ?_
        refine x_lmul (pc := 65) K dX0_tintings_65 ?_
        obtain ⟨y6, ey6, h⟩ := xl_o h
        refine x_topl ey6 ?_
        clear ey6
        refine x_lstore (lv' := [(0, .ref (V 0)), (1, .int u1), (2, .long x2), (4, .long y6), (6, .int x6)]) (pc := 66) K dX0_tintings_66 (by decide) rfl ?_
        refine x_aload_n (pc := 68) K dX0_tintings_68 0 rfl rfl ?_
        refine x_callVv (pc := 69) (n := 0) K (c_X0_shareOutOneSet l D cI cJ cZ cA V land there near worn trial fits ways _ h) rfl rfl gX0_tintings_X0_shareOutOneSet rfl (by decide +kernel) ⟨Nat.le_of_ble_eq_true rfl, Nat.le_of_ble_eq_true rfl⟩ rfl (av := []) (b := V 0) (ci := 0) (q0 := 0) rfl rfl rfl (Nat.le_of_ble_eq_true rfl) [0, 1, 2, 3, 4, 5, 6] [] (wr := []) rfl rfl rfl rfl (by decide) dX0_tintings_69 ⟨Nat.le_of_ble_eq_true rfl, Nat.le_of_ble_eq_true rfl⟩ (fun ways_7 h => ?_)
        refine x_ws (ws' := (wX0 cI cJ cZ cA V land there near worn trial fits ways_7)) rfl ?_
        refine x_lload_n (pc := 72) K dX0_tintings_72 2 rfl rfl ?_
        refine x_lload (pc := 73) K dX0_tintings_73 3 rfl ?_
        refine x_aload_n (pc := 75) K dX0_tintings_75 0 rfl rfl ?_
        refine x_get (pc := 76) (ci := 0) (C := RX0) (T := TX0) (N := 8) K (inX0_tintings) 0 rfl rfl 6 (by decide) kX0_tintings_0 rfl rfl dX0_tintings_76 ?_
        refine x_iconst (v := (0)) (pc := 79) K dX0_tintings_79 (by decide) ?_
        have g9 := h.1
        replace h := h.2
        refine x_lald (pc := 80) K 6 1 rfl rfl g9 dX0_tintings_80 ?_
        clear g9
        refine x_lmul (pc := 81) K dX0_tintings_81 ?_
        refine x_ladd (pc := 82) K dX0_tintings_82 ?_
        obtain ⟨y8, ey8, h⟩ := xl_o h
        refine x_topl ey8 ?_
        clear ey8
        refine x_lstore_n (lv' := [(0, .ref (V 0)), (1, .int u1), (2, .long y8), (4, .long y6), (6, .int x6)]) (pc := 83) K dX0_tintings_83 rfl (by decide) rfl ?_
        refine x_iinc (v := x6 + (1 : Int32)) (lv' := [(0, .ref (V 0)), (1, .int u1), (2, .long y8), (4, .long y6), (6, .int (x6 + (1 : Int32)))]) (pc := 84) K dX0_tintings_84 (k := 4) rfl rfl (by decide) rfl ?_
        refine x_goto (pc := 87) K dX0_tintings_87 (tgt := 45) (by decide) ?_
        exact ih y8 y6 (x6 + (1 : Int32)) ways_7 h k0
set_option maxHeartbeats 4000000 in
set_option maxRecDepth 100000 in
theorem c0_X0_tintings (l : Launch) (D : va_G) (cI cJ cZ cA : ClassId) (V : Nat → Nat) (p1 : Int32) (land : Nat → Int64) (there : Int32) (near : Nat → Int32) (worn : Nat → Int32) (trial : Nat → Int32) (fits : Nat → Int32) (ways : Nat → Int64) (P : Int64 → (Nat → Int32) → (Nat → Int64) → Prop) (h : q_X0_tintings p1 there near fits ways P (fun _ => False)) : xMl l yX0_tintings wsX0_tintings rm0_X0_tintings D vwCl (xtys cI cJ cZ cA) (wX0 cI cJ cZ cA V land there near worn trial fits ways) [.ref (V 0), .int p1] (σ := (Nat → Int32) × (Nat → Int64)) (fun u => (wX0 cI cJ cZ cA V land there near worn trial u.1 u.2)) (fun r u => P r u.1 u.2) := by
  refine xMl_of (cc := cX0_tintings) (maxL := 7) (by decide) rfl (Nat.le_of_ble_eq_true rfl) ?_
  intro X K hE
  have K : xk X l rm0_X0_tintings D vwCl (xtys cI cJ cZ cA) cX0_tintings RX0 wsX0_tintings 7 := K
  unfold q_X0_tintings at h
  refine x_iload_n (pc := 0) K dX0_tintings_0 1 rfl rfl ?_
  refine x_pcallSv (pc := 1) (n := 1) K (c0_X0_checkNumberOfTints l D cI cJ cZ cA p1 _ h) rfl rfl gX0_tintings_X0_checkNumberOfTints rfl (by decide +kernel) ⟨Nat.le_of_ble_eq_true rfl, Nat.le_of_ble_eq_true rfl⟩ rfl (av := [.int p1]) rfl (Nat.le_of_ble_eq_true rfl) dX0_tintings_1 ⟨Nat.le_of_ble_eq_true rfl, Nat.le_of_ble_eq_true rfl⟩ (fun u9 h => ?_)
  refine x_aload_n (pc := 4) K dX0_tintings_4 0 rfl rfl ?_
  refine x_callVv (pc := 5) (n := 0) K (c_X0_markSetsWithoutNeighbours l D cI cJ cZ cA V land there near worn trial fits ways _ h) rfl rfl gX0_tintings_X0_markSetsWithoutNeighbours rfl (by decide +kernel) ⟨Nat.le_of_ble_eq_true rfl, Nat.le_of_ble_eq_true rfl⟩ rfl (av := []) (b := V 0) (ci := 0) (q0 := 0) rfl rfl rfl (Nat.le_of_ble_eq_true rfl) [0, 1, 2, 3, 4, 5, 6] [] (wr := []) rfl rfl rfl rfl (by decide) dX0_tintings_5 ⟨Nat.le_of_ble_eq_true rfl, Nat.le_of_ble_eq_true rfl⟩ (fun fits_1 h => ?_)
  refine x_ws (ws' := (wX0 cI cJ cZ cA V land there near worn trial fits_1 ways)) rfl ?_
  refine x_aload_n (pc := 8) K dX0_tintings_8 0 rfl rfl ?_
  refine x_get (pc := 9) (ci := 0) (C := RX0) (T := TX0) (N := 8) K (inX0_tintings) 0 rfl rfl 6 (by decide) kX0_tintings_0 rfl rfl dX0_tintings_9 ?_
  refine x_lconst (v := (0)) (pc := 12) K dX0_tintings_12 (by decide) ?_
  refine x_callSv (pc := 13) (n := 2) K (c_J7_fill_d0a16 l D cI cJ cZ cA (V 6) (0 : Int64) ways _ h) rfl rfl gX0_tintings_J7_fill_d0a16 rfl (by decide +kernel) ⟨Nat.le_of_ble_eq_true rfl, Nat.le_of_ble_eq_true rfl⟩ rfl (av := [.ref (V 6), .long (0 : Int64)]) rfl (Nat.le_of_ble_eq_true rfl) [6] [0, 1, 2, 3, 4, 5] (wr := [(V 0, .inr (0, [.ref (V 1), .int there, .ref (V 2), .ref (V 3), .ref (V 4), .ref (V 5), .ref (V 6), .ref (V 7)])), (V 1, .inl (cJ, 10, .inr (.inl land))), (V 2, .inl (cI, 10, .inl near)), (V 3, .inl (cI, 10, .inl worn)), (V 4, .inl (cI, 10, .inl trial)), (V 5, .inl (cZ, 1024, .inl fits_1))]) rfl rfl rfl rfl (by decide) dX0_tintings_13 ⟨Nat.le_of_ble_eq_true rfl, Nat.le_of_ble_eq_true rfl⟩ (fun ways_2 h => ?_)
  refine x_wsub (ws' := (wX0 cI cJ cZ cA V land there near worn trial fits_1 ways_2)) [0, 1, 2, 3, 4, 5, 6] rfl rfl ?_
  refine x_aload_n (pc := 16) K dX0_tintings_16 0 rfl rfl ?_
  refine x_get (pc := 17) (ci := 0) (C := RX0) (T := TX0) (N := 8) K (inX0_tintings) 0 rfl rfl 6 (by decide) kX0_tintings_0 rfl rfl dX0_tintings_17 ?_
  refine x_aload_n (pc := 20) K dX0_tintings_20 0 rfl rfl ?_
  refine x_get (pc := 21) (ci := 0) (C := RX0) (T := TX0) (N := 8) K (inX0_tintings) 0 rfl rfl 1 (by decide) kX0_tintings_1 rfl rfl dX0_tintings_21 ?_
  refine x_lconst (v := (1)) (pc := 24) K dX0_tintings_24 (by decide) ?_
  have g9 := h.1
  replace h := h.2
  refine x_last (ws' := (wX0 cI cJ cZ cA V land there near worn trial fits_1 (vp_updL ways_2 there.toNatClampNeg (1 : Int64)))) (pc := 25) K 6 1 rfl rfl rfl g9 dX0_tintings_25 ?_
  clear g9
  refine x_aload_n (pc := 26) K dX0_tintings_26 0 rfl rfl ?_
  refine x_get (pc := 27) (ci := 0) (C := RX0) (T := TX0) (N := 8) K (inX0_tintings) 0 rfl rfl 1 (by decide) kX0_tintings_1 rfl rfl dX0_tintings_27 ?_
  obtain ⟨J4, hJ4, h⟩ := xj1_o h
  have kJ4 : ∀ (v5 : Int64), J4 v5 → xw X 0 0 38 [(0, .ref (V 0)), (1, .int p1)] [.long v5] (wX0 cI cJ cZ cA V land there near worn trial fits_1 (vp_updL ways_2 there.toNatClampNeg (1 : Int64))) := by
    intro v5 hj
    have h := hJ4 v5 hj
    refine x_lstore_n (lv' := [(0, .ref (V 0)), (1, .int p1), (2, .long v5)]) (pc := 38) K dX0_tintings_38 rfl (by decide) rfl ?_
    refine x_lconst (v := (1)) (pc := 39) K dX0_tintings_39 (by decide) ?_
    refine x_lstore (lv' := [(0, .ref (V 0)), (1, .int p1), (2, .long v5), (4, .long (1 : Int64))]) (pc := 40) K dX0_tintings_40 (by decide) rfl ?_
    refine x_iconst (v := (0)) (pc := 42) K dX0_tintings_42 (by decide) ?_
    refine x_istore (lv' := [(0, .ref (V 0)), (1, .int p1), (2, .long v5), (4, .long (1 : Int64)), (6, .int (0 : Int32))]) (pc := 43) K dX0_tintings_43 (by decide) rfl ?_
    obtain ⟨n9, h⟩ := h
    refine w0_X0_tintings_L45 K p1 land there near worn trial fits_1 _ n9 v5 (1 : Int64) (0 : Int32) (vp_updL ways_2 there.toNatClampNeg (1 : Int64)) h (fun v10 v11 h => ?_)
    refine x_lload_n (pc := 90) K dX0_tintings_90 0 rfl rfl ?_
    exact hE v10 (fits_1, v11) _ _ h dX0_tintings_91
  refine x_if_ne (pc := 30) K dX0_tintings_30 (tgt := 37) (by decide) (fun c9 => ?_) (fun c9 => ?_)
  · have h := h.1 c9
    refine x_lconst (v := (0)) (pc := 37) K dX0_tintings_37 (by decide) ?_
    exact kJ4 (0 : Int64) h
  · have h := h.2 c9
    refine x_lconst (v := (1)) (pc := 33) K dX0_tintings_33 (by decide) ?_
    refine x_goto (pc := 34) K dX0_tintings_34 (tgt := 38) (by decide) ?_
    exact kJ4 (1 : Int64) h
abbrev rm0_X0_tintingsByPairs : Room := { frames := 26, cells := 0, slots := 0, locals := 900 }
set_option maxHeartbeats 4000000 in
set_option maxRecDepth 100000 in
theorem c0_X0_tintingsByPairs (l : Launch) (D : va_G) (cI cJ cZ cA : ClassId) (V : Nat → Nat) (p1 : Int32) (land : Nat → Int64) (there : Int32) (near worn trial fits : Nat → Int32) (ways : Nat → Int64) (joined : Nat → Nat → Int32) (P : Int64 → (Nat → Nat → Int32) → Prop) (h : q_X0_tintingsByPairs p1 near there joined P (fun _ => False)) : xMl l yX0_tintingsByPairs wsX0_tintingsByPairs rm0_X0_tintingsByPairs D vwCl (xtys cI cJ cZ cA) (wX0J cI cJ cZ cA V land there near worn trial fits ways joined) [.ref (V 0), .int p1] (σ := Nat → Nat → Int32) (fun u => wX0J cI cJ cZ cA V land there near worn trial fits ways u) (fun r u => P r u) := by
  refine xMl_of (cc := cX0_tintingsByPairs) (maxL := 2) (by decide) rfl (Nat.le_of_ble_eq_true rfl) ?_
  intro X K hE
  have K : xk X l rm0_X0_tintingsByPairs D vwCl (xtys cI cJ cZ cA) cX0_tintingsByPairs RX0 wsX0_tintingsByPairs 2 := K
  unfold q_X0_tintingsByPairs at h
  refine x_iload_n (pc := 0) K dX0_tintingsByPairs_0 1 rfl rfl ?_
  refine x_pcallSv (pc := 1) (n := 1) K (c0_X0_checkNumberOfTints l D cI cJ cZ cA p1 _ h) rfl rfl gX0_tintingsByPairs_X0_checkNumberOfTints rfl (by decide +kernel) ⟨Nat.le_of_ble_eq_true rfl, Nat.le_of_ble_eq_true rfl⟩ rfl (av := [.int p1]) rfl (Nat.le_of_ble_eq_true rfl) dX0_tintingsByPairs_1 ⟨Nat.le_of_ble_eq_true rfl, Nat.le_of_ble_eq_true rfl⟩ (fun u9 h => ?_)
  refine x_aload_n (pc := 4) K dX0_tintingsByPairs_4 0 rfl rfl ?_
  refine x_get (pc := 5) (ci := 0) (C := RX0) (T := TX0) (N := 8) K inX0_tintingsByPairs 0 rfl rfl 2 (by decide) (show Cond.fieldLink RX0 17 "FourTints" "near" "[I" ∈ wsX0_tintingsByPairs by decide +kernel) rfl rfl dX0_tintingsByPairs_5 ?_
  refine x_iconst (v := 0) (pc := 8) K dX0_tintingsByPairs_8 (by decide) ?_
  refine x_aload_n (pc := 9) K dX0_tintingsByPairs_9 0 rfl rfl ?_
  refine x_get (pc := 10) (ci := 0) (C := RX0) (T := TX0) (N := 8) K inX0_tintingsByPairs 0 rfl rfl 7 (by decide) (show Cond.fieldLink RX0 36 "FourTints" "joined" "[[I" ∈ wsX0_tintingsByPairs by decide +kernel) rfl rfl dX0_tintingsByPairs_10 ?_
  refine x_iconst (v := 0) (pc := 13) K dX0_tintingsByPairs_13 (by decide) ?_
  refine x_aaldR (pc := 14) K 7 3 rfl rfl rfl (by decide) dX0_tintingsByPairs_14 ?_
  refine x_iconst (v := 0) (pc := 15) K dX0_tintingsByPairs_15 (by decide) ?_
  refine x_bipush (v := 10) (pc := 16) K dX0_tintingsByPairs_16 (by decide) ?_
  refine x_copyi (pc := 18) (index := 168) (ws' := wX0J cI cJ cZ cA V land there near worn trial fits ways (upd2 joined 0 (va_cpy near (joined 0) 0 0 10))) K (by decide +kernel) (by decide +kernel) (by decide +kernel) (by decide +kernel) 2 8 0 rfl rfl rfl rfl (by decide) (by decide) (by decide) (by decide) (by decide) ⟨Nat.le_of_ble_eq_true rfl, by decide +kernel⟩ dX0_tintingsByPairs_18 rfl ?_
  refine x_aload_n (pc := 21) K dX0_tintingsByPairs_21 0 rfl rfl ?_
  refine x_get (pc := 22) (ci := 0) (C := RX0) (T := TX0) (N := 8) K inX0_tintingsByPairs 0 rfl rfl 7 (by decide) (show Cond.fieldLink RX0 36 "FourTints" "joined" "[[I" ∈ wsX0_tintingsByPairs by decide +kernel) rfl rfl dX0_tintingsByPairs_22 ?_
  refine x_iconst (v := 0) (pc := 25) K dX0_tintingsByPairs_25 (by decide) ?_
  refine x_aload_n (pc := 26) K dX0_tintingsByPairs_26 0 rfl rfl ?_
  refine x_get (pc := 27) (ci := 0) (C := RX0) (T := TX0) (N := 8) K inX0_tintingsByPairs 0 rfl rfl 1 (by decide) (show Cond.fieldLink RX0 13 "FourTints" "there" "I" ∈ wsX0_tintingsByPairs by decide +kernel) rfl rfl dX0_tintingsByPairs_27 ?_
  refine x_iload_n (pc := 30) K dX0_tintingsByPairs_30 1 rfl rfl ?_
  refine x_callSl (pc := 31) (n := 4) K (c_X0_countByPairs l D cI cJ cZ cA 12 (V 7) (fun k => V (k + 8)) 0 there p1 _ _ h) rfl rfl gX0_tintingsByPairs_X0_countByPairs rfl (by decide +kernel) ⟨Nat.le_of_ble_eq_true rfl, Nat.le_of_ble_eq_true rfl⟩ rfl (av := [.ref (V 7), .int 0, .int there, .int p1]) rfl (Nat.le_of_ble_eq_true rfl) [7, 8, 9, 10, 11, 12, 13, 14, 15, 16, 17] [0, 1, 2, 3, 4, 5, 6] (wr := wX0 cI cJ cZ cA V land there near worn trial fits ways) rfl rfl rfl rfl (by decide) dX0_tintingsByPairs_31 ⟨Nat.le_of_ble_eq_true rfl, Nat.le_of_ble_eq_true rfl⟩ (fun r u h => ?_)
  refine x_ws (ws' := wX0J cI cJ cZ cA V land there near worn trial fits ways u) rfl ?_
  exact hE r u _ _ h dX0_tintingsByPairs_34
