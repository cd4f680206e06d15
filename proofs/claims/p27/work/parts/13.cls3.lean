abbrev rm_X0_checkCountry : Room := { frames := 8, cells := 1, slots := 6, locals := 120 }
theorem kX0_checkCountry_0 : ∀ w ∈ Cond.classLink RX0 178 "java/lang/IndexOutOfBoundsException" :: Cond.initialized "java/lang/IndexOutOfBoundsException" :: (vx_atS RX0 182 "java/lang/IndexOutOfBoundsException" ["java/lang/RuntimeException", "java/lang/Exception"]).filter goodWord, w ∈ wsX0_checkCountry := by decide +kernel
def q_X0_checkCountry (p0 : Int32) (P : Prop) (T : String → Prop) : Prop := ((p0 < (0 : Int32) → T "java/lang/IndexOutOfBoundsException") ∧ (¬ p0 < (0 : Int32) → ((p0 < (10 : Int32) → P) ∧ (¬ p0 < (10 : Int32) → T "java/lang/IndexOutOfBoundsException"))))
set_option maxHeartbeats 4000000 in
set_option maxRecDepth 100000 in
theorem c_X0_checkCountry (l : Launch) (D : va_G) (cI cJ cZ cA : ClassId) (hst : l.stackTraces = false) (p0 : Int32) (P : Prop) (T : String → Prop) (h : q_X0_checkCountry p0 P T) : xTv l yX0_checkCountry wsX0_checkCountry rm_X0_checkCountry D vwCl (xtys cI cJ cZ cA) [] [.int p0] RX0 [(183, "there is no such country")] (σ := Unit) (fun _ => []) (fun _ => P) T 1 6 := by
  refine xTv_of (cc := cX0_checkCountry) (maxL := 1) (by decide) rfl (Nat.le_of_ble_eq_true rfl) ?_
  intro X K hE hth
  have K : xk X l rm_X0_checkCountry D vwCl (xtys cI cJ cZ cA) cX0_checkCountry RX0 wsX0_checkCountry 1 := K
  unfold q_X0_checkCountry at h
  refine x_iload_n (pc := 0) K dX0_checkCountry_0 0 rfl rfl ?_
  refine x_if_lt (pc := 1) K dX0_checkCountry_1 (tgt := 10) (by decide) (fun c9 => ?_) (fun c9 => ?_)
  · have h := h.1 c9
    refine x_keep [false] rfl ?_
    refine x_throw (pc := 10) (cls := "java/lang/IndexOutOfBoundsException") (text := "there is no such country") (names := ["java/lang/RuntimeException", "java/lang/Exception"]) (ik := 178) (is := 183) (ic := 182) K hth hst h (by decide) (by decide +kernel) (by decide +kernel) kX0_checkCountry_0 (by decide +kernel) (by decide +kernel) dX0_checkCountry_10 dX0_checkCountry_13 dX0_checkCountry_14 dX0_checkCountry_16 dX0_checkCountry_19 (by decide) (by decide) (Nat.le_of_ble_eq_true rfl) (Nat.le_of_ble_eq_true rfl) (Nat.le_of_ble_eq_true rfl) (Nat.le_of_ble_eq_true rfl)
  · have h := h.2 c9
    refine x_iload_n (pc := 4) K dX0_checkCountry_4 0 rfl rfl ?_
    refine x_bipush (v := (10)) (pc := 5) K dX0_checkCountry_5 (by decide) ?_
    refine x_icmp_lt (pc := 7) K dX0_checkCountry_7 (tgt := 20) (by decide) (fun c9 => ?_) (fun c9 => ?_)
    · have h := h.1 c9
      refine x_keep [false] rfl ?_
      refine x_widen (k := 1) (n := 6) (Nat.le_of_ble_eq_true rfl) (Nat.le_of_ble_eq_true rfl) ?_
      exact hE () _ _ h dX0_checkCountry_20
    · have h := h.2 c9
      refine x_keep [false] rfl ?_
      refine x_throw (pc := 10) (cls := "java/lang/IndexOutOfBoundsException") (text := "there is no such country") (names := ["java/lang/RuntimeException", "java/lang/Exception"]) (ik := 178) (is := 183) (ic := 182) K hth hst h (by decide) (by decide +kernel) (by decide +kernel) kX0_checkCountry_0 (by decide +kernel) (by decide +kernel) dX0_checkCountry_10 dX0_checkCountry_13 dX0_checkCountry_14 dX0_checkCountry_16 dX0_checkCountry_19 (by decide) (by decide) (Nat.le_of_ble_eq_true rfl) (Nat.le_of_ble_eq_true rfl) (Nat.le_of_ble_eq_true rfl) (Nat.le_of_ble_eq_true rfl)
abbrev rm_X0_checkPaint : Room := { frames := 8, cells := 1, slots := 6, locals := 120 }
theorem kX0_checkPaint_0 : ∀ w ∈ Cond.classLink RX0 59 "java/lang/IllegalArgumentException" :: Cond.initialized "java/lang/IllegalArgumentException" :: (vx_atS RX0 63 "java/lang/IllegalArgumentException" ["java/lang/RuntimeException", "java/lang/Exception"]).filter goodWord, w ∈ wsX0_checkPaint := by decide +kernel
def q_X0_checkPaint (p0 : Int32) (P : Prop) (T : String → Prop) : Prop := ((p0 = (-1 : Int32) → P) ∧ (¬ p0 = (-1 : Int32) → ((p0 < (0 : Int32) → T "java/lang/IllegalArgumentException") ∧ (¬ p0 < (0 : Int32) → ((p0 < (10 : Int32) → P) ∧ (¬ p0 < (10 : Int32) → T "java/lang/IllegalArgumentException"))))))
set_option maxHeartbeats 4000000 in
set_option maxRecDepth 100000 in
theorem c_X0_checkPaint (l : Launch) (D : va_G) (cI cJ cZ cA : ClassId) (hst : l.stackTraces = false) (p0 : Int32) (P : Prop) (T : String → Prop) (h : q_X0_checkPaint p0 P T) : xTv l yX0_checkPaint wsX0_checkPaint rm_X0_checkPaint D vwCl (xtys cI cJ cZ cA) [] [.int p0] RX0 [(185, "neither a country nor sea")] (σ := Unit) (fun _ => []) (fun _ => P) T 1 6 := by
  refine xTv_of (cc := cX0_checkPaint) (maxL := 1) (by decide) rfl (Nat.le_of_ble_eq_true rfl) ?_
  intro X K hE hth
  have K : xk X l rm_X0_checkPaint D vwCl (xtys cI cJ cZ cA) cX0_checkPaint RX0 wsX0_checkPaint 1 := K
  unfold q_X0_checkPaint at h
  refine x_iload_n (pc := 0) K dX0_checkPaint_0 0 rfl rfl ?_
  refine x_iconst (v := (-1)) (pc := 1) K dX0_checkPaint_1 (by decide) ?_
  refine x_icmp_eq (pc := 2) K dX0_checkPaint_2 (tgt := 25) (by decide) (fun c9 => ?_) (fun c9 => ?_)
  · have h := h.1 c9
    refine x_keep [false] rfl ?_
    refine x_widen (k := 1) (n := 6) (Nat.le_of_ble_eq_true rfl) (Nat.le_of_ble_eq_true rfl) ?_
    exact hE () _ _ h dX0_checkPaint_25
  · have h := h.2 c9
    refine x_iload_n (pc := 5) K dX0_checkPaint_5 0 rfl rfl ?_
    refine x_if_lt (pc := 6) K dX0_checkPaint_6 (tgt := 15) (by decide) (fun c9 => ?_) (fun c9 => ?_)
    · have h := h.1 c9
      refine x_keep [false] rfl ?_
      refine x_throw (pc := 15) (cls := "java/lang/IllegalArgumentException") (text := "neither a country nor sea") (names := ["java/lang/RuntimeException", "java/lang/Exception"]) (ik := 59) (is := 185) (ic := 63) K hth hst h (by decide) (by decide +kernel) (by decide +kernel) kX0_checkPaint_0 (by decide +kernel) (by decide +kernel) dX0_checkPaint_15 dX0_checkPaint_18 dX0_checkPaint_19 dX0_checkPaint_21 dX0_checkPaint_24 (by decide) (by decide) (Nat.le_of_ble_eq_true rfl) (Nat.le_of_ble_eq_true rfl) (Nat.le_of_ble_eq_true rfl) (Nat.le_of_ble_eq_true rfl)
    · have h := h.2 c9
      refine x_iload_n (pc := 9) K dX0_checkPaint_9 0 rfl rfl ?_
      refine x_bipush (v := (10)) (pc := 10) K dX0_checkPaint_10 (by decide) ?_
      refine x_icmp_lt (pc := 12) K dX0_checkPaint_12 (tgt := 25) (by decide) (fun c9 => ?_) (fun c9 => ?_)
      · have h := h.1 c9
        refine x_keep [false] rfl ?_
        refine x_widen (k := 1) (n := 6) (Nat.le_of_ble_eq_true rfl) (Nat.le_of_ble_eq_true rfl) ?_
        exact hE () _ _ h dX0_checkPaint_25
      · have h := h.2 c9
        refine x_keep [false] rfl ?_
        refine x_throw (pc := 15) (cls := "java/lang/IllegalArgumentException") (text := "neither a country nor sea") (names := ["java/lang/RuntimeException", "java/lang/Exception"]) (ik := 59) (is := 185) (ic := 63) K hth hst h (by decide) (by decide +kernel) (by decide +kernel) kX0_checkPaint_0 (by decide +kernel) (by decide +kernel) dX0_checkPaint_15 dX0_checkPaint_18 dX0_checkPaint_19 dX0_checkPaint_21 dX0_checkPaint_24 (by decide) (by decide) (Nat.le_of_ble_eq_true rfl) (Nat.le_of_ble_eq_true rfl) (Nat.le_of_ble_eq_true rfl) (Nat.le_of_ble_eq_true rfl)
abbrev rm_X0_checkTint : Room := { frames := 8, cells := 1, slots := 6, locals := 120 }
theorem kX0_checkTint_0 : ∀ w ∈ Cond.classLink RX0 59 "java/lang/IllegalArgumentException" :: Cond.initialized "java/lang/IllegalArgumentException" :: (vx_atS RX0 63 "java/lang/IllegalArgumentException" ["java/lang/RuntimeException", "java/lang/Exception"]).filter goodWord, w ∈ wsX0_checkTint := by decide +kernel
def q_X0_checkTint (p0 : Int32) (P : Prop) (T : String → Prop) : Prop := ((p0 < (1 : Int32) → T "java/lang/IllegalArgumentException") ∧ (¬ p0 < (1 : Int32) → ((p0 ≤ (10 : Int32) → P) ∧ (¬ p0 ≤ (10 : Int32) → T "java/lang/IllegalArgumentException"))))
set_option maxHeartbeats 4000000 in
set_option maxRecDepth 100000 in
theorem c_X0_checkTint (l : Launch) (D : va_G) (cI cJ cZ cA : ClassId) (hst : l.stackTraces = false) (p0 : Int32) (P : Prop) (T : String → Prop) (h : q_X0_checkTint p0 P T) : xTv l yX0_checkTint wsX0_checkTint rm_X0_checkTint D vwCl (xtys cI cJ cZ cA) [] [.int p0] RX0 [(187, "there is no such tint")] (σ := Unit) (fun _ => []) (fun _ => P) T 1 6 := by
  refine xTv_of (cc := cX0_checkTint) (maxL := 1) (by decide) rfl (Nat.le_of_ble_eq_true rfl) ?_
  intro X K hE hth
  have K : xk X l rm_X0_checkTint D vwCl (xtys cI cJ cZ cA) cX0_checkTint RX0 wsX0_checkTint 1 := K
  unfold q_X0_checkTint at h
  refine x_iload_n (pc := 0) K dX0_checkTint_0 0 rfl rfl ?_
  refine x_iconst (v := (1)) (pc := 1) K dX0_checkTint_1 (by decide) ?_
  refine x_icmp_lt (pc := 2) K dX0_checkTint_2 (tgt := 11) (by decide) (fun c9 => ?_) (fun c9 => ?_)
  · have h := h.1 c9
    refine x_keep [false] rfl ?_
    refine x_throw (pc := 11) (cls := "java/lang/IllegalArgumentException") (text := "there is no such tint") (names := ["java/lang/RuntimeException", "java/lang/Exception"]) (ik := 59) (is := 187) (ic := 63) K hth hst h (by decide) (by decide +kernel) (by decide +kernel) kX0_checkTint_0 (by decide +kernel) (by decide +kernel) dX0_checkTint_11 dX0_checkTint_14 dX0_checkTint_15 dX0_checkTint_17 dX0_checkTint_20 (by decide) (by decide) (Nat.le_of_ble_eq_true rfl) (Nat.le_of_ble_eq_true rfl) (Nat.le_of_ble_eq_true rfl) (Nat.le_of_ble_eq_true rfl)
  · have h := h.2 c9
    refine x_iload_n (pc := 5) K dX0_checkTint_5 0 rfl rfl ?_
    refine x_bipush (v := (10)) (pc := 6) K dX0_checkTint_6 (by decide) ?_
    refine x_icmp_le (pc := 8) K dX0_checkTint_8 (tgt := 21) (by decide) (fun c9 => ?_) (fun c9 => ?_)
    · have h := h.1 c9
      refine x_keep [false] rfl ?_
      refine x_widen (k := 1) (n := 6) (Nat.le_of_ble_eq_true rfl) (Nat.le_of_ble_eq_true rfl) ?_
      exact hE () _ _ h dX0_checkTint_21
    · have h := h.2 c9
      refine x_keep [false] rfl ?_
      refine x_throw (pc := 11) (cls := "java/lang/IllegalArgumentException") (text := "there is no such tint") (names := ["java/lang/RuntimeException", "java/lang/Exception"]) (ik := 59) (is := 187) (ic := 63) K hth hst h (by decide) (by decide +kernel) (by decide +kernel) kX0_checkTint_0 (by decide +kernel) (by decide +kernel) dX0_checkTint_11 dX0_checkTint_14 dX0_checkTint_15 dX0_checkTint_17 dX0_checkTint_20 (by decide) (by decide) (Nat.le_of_ble_eq_true rfl) (Nat.le_of_ble_eq_true rfl) (Nat.le_of_ble_eq_true rfl) (Nat.le_of_ble_eq_true rfl)
abbrev rm_X0_checkNumberOfTints : Room := { frames := 8, cells := 1, slots := 6, locals := 120 }
theorem kX0_checkNumberOfTints_0 : ∀ w ∈ Cond.classLink RX0 59 "java/lang/IllegalArgumentException" :: Cond.initialized "java/lang/IllegalArgumentException" :: (vx_atS RX0 63 "java/lang/IllegalArgumentException" ["java/lang/RuntimeException", "java/lang/Exception"]).filter goodWord, w ∈ wsX0_checkNumberOfTints := by decide +kernel
def q_X0_checkNumberOfTints (p0 : Int32) (P : Prop) (T : String → Prop) : Prop := ((p0 < (0 : Int32) → T "java/lang/IllegalArgumentException") ∧ (¬ p0 < (0 : Int32) → ((p0 ≤ (10 : Int32) → P) ∧ (¬ p0 ≤ (10 : Int32) → T "java/lang/IllegalArgumentException"))))
set_option maxHeartbeats 4000000 in
set_option maxRecDepth 100000 in
theorem c_X0_checkNumberOfTints (l : Launch) (D : va_G) (cI cJ cZ cA : ClassId) (hst : l.stackTraces = false) (p0 : Int32) (P : Prop) (T : String → Prop) (h : q_X0_checkNumberOfTints p0 P T) : xTv l yX0_checkNumberOfTints wsX0_checkNumberOfTints rm_X0_checkNumberOfTints D vwCl (xtys cI cJ cZ cA) [] [.int p0] RX0 [(189, "there are not so many tints")] (σ := Unit) (fun _ => []) (fun _ => P) T 1 6 := by
  refine xTv_of (cc := cX0_checkNumberOfTints) (maxL := 1) (by decide) rfl (Nat.le_of_ble_eq_true rfl) ?_
  intro X K hE hth
  have K : xk X l rm_X0_checkNumberOfTints D vwCl (xtys cI cJ cZ cA) cX0_checkNumberOfTints RX0 wsX0_checkNumberOfTints 1 := K
  unfold q_X0_checkNumberOfTints at h
  refine x_iload_n (pc := 0) K dX0_checkNumberOfTints_0 0 rfl rfl ?_
  refine x_if_lt (pc := 1) K dX0_checkNumberOfTints_1 (tgt := 10) (by decide) (fun c9 => ?_) (fun c9 => ?_)
  · have h := h.1 c9
    refine x_keep [false] rfl ?_
    refine x_throw (pc := 10) (cls := "java/lang/IllegalArgumentException") (text := "there are not so many tints") (names := ["java/lang/RuntimeException", "java/lang/Exception"]) (ik := 59) (is := 189) (ic := 63) K hth hst h (by decide) (by decide +kernel) (by decide +kernel) kX0_checkNumberOfTints_0 (by decide +kernel) (by decide +kernel) dX0_checkNumberOfTints_10 dX0_checkNumberOfTints_13 dX0_checkNumberOfTints_14 dX0_checkNumberOfTints_16 dX0_checkNumberOfTints_19 (by decide) (by decide) (Nat.le_of_ble_eq_true rfl) (Nat.le_of_ble_eq_true rfl) (Nat.le_of_ble_eq_true rfl) (Nat.le_of_ble_eq_true rfl)
  · have h := h.2 c9
    refine x_iload_n (pc := 4) K dX0_checkNumberOfTints_4 0 rfl rfl ?_
    refine x_bipush (v := (10)) (pc := 5) K dX0_checkNumberOfTints_5 (by decide) ?_
    refine x_icmp_le (pc := 7) K dX0_checkNumberOfTints_7 (tgt := 20) (by decide) (fun c9 => ?_) (fun c9 => ?_)
    · have h := h.1 c9
      refine x_keep [false] rfl ?_
      refine x_widen (k := 1) (n := 6) (Nat.le_of_ble_eq_true rfl) (Nat.le_of_ble_eq_true rfl) ?_
      exact hE () _ _ h dX0_checkNumberOfTints_20
    · have h := h.2 c9
      refine x_keep [false] rfl ?_
      refine x_throw (pc := 10) (cls := "java/lang/IllegalArgumentException") (text := "there are not so many tints") (names := ["java/lang/RuntimeException", "java/lang/Exception"]) (ik := 59) (is := 189) (ic := 63) K hth hst h (by decide) (by decide +kernel) (by decide +kernel) kX0_checkNumberOfTints_0 (by decide +kernel) (by decide +kernel) dX0_checkNumberOfTints_10 dX0_checkNumberOfTints_13 dX0_checkNumberOfTints_14 dX0_checkNumberOfTints_16 dX0_checkNumberOfTints_19 (by decide) (by decide) (Nat.le_of_ble_eq_true rfl) (Nat.le_of_ble_eq_true rfl) (Nat.le_of_ble_eq_true rfl) (Nat.le_of_ble_eq_true rfl)
abbrev rm_X0_checkTinted : Room := { frames := 9, cells := 1, slots := 6, locals := 160 }
theorem inX0_checkTinted : ∀ w ∈ u_ws RX0 TX0 8, w ∈ wsX0_checkTinted := by decide +kernel
theorem kX0_checkTinted_0 : Cond.fieldLink RX0 13 "FourTints" "there" "I" ∈ wsX0_checkTinted := by decide +kernel
theorem kX0_checkTinted_1 : ∀ w ∈ Cond.classLink RX0 191 "java/lang/IllegalStateException" :: Cond.initialized "java/lang/IllegalStateException" :: (vx_atS RX0 195 "java/lang/IllegalStateException" ["java/lang/RuntimeException", "java/lang/Exception"]).filter goodWord, w ∈ wsX0_checkTinted := by decide +kernel
theorem kX0_checkTinted_2 : Cond.fieldLink RX0 21 "FourTints" "worn" "[I" ∈ wsX0_checkTinted := by decide +kernel
def q_X0_checkTinted (p1 : Int32) (there : Int32) (worn : Nat → Int32) (P : Prop) (T : String → Prop) : Prop := q_X0_has there p1 (fun (r1 : Int32) => ((r1 = (0 : Int32) → T "java/lang/IllegalStateException") ∧ (¬ r1 = (0 : Int32) → xin p1 10 = true ∧ ((¬ (worn p1.toNatClampNeg) = (0 : Int32) → P) ∧ ((worn p1.toNatClampNeg) = (0 : Int32) → T "java/lang/IllegalStateException")))))
set_option maxHeartbeats 4000000 in
set_option maxRecDepth 100000 in
theorem c_X0_checkTinted (l : Launch) (D : va_G) (cI cJ cZ cA : ClassId) (hst : l.stackTraces = false) (V : Nat → Nat) (p1 : Int32) (land : Nat → Int64) (there : Int32) (near : Nat → Int32) (worn : Nat → Int32) (trial : Nat → Int32) (fits : Nat → Int32) (ways : Nat → Int64) (P : Prop) (T : String → Prop) (h : q_X0_checkTinted p1 there worn P T) : xTv l yX0_checkTinted wsX0_checkTinted rm_X0_checkTinted D vwCl (xtys cI cJ cZ cA) (wX0 cI cJ cZ cA V land there near worn trial fits ways) [.ref (V 0), .int p1] RX0 [(193, "the country is not there or has no tint")] (σ := Unit) (fun _ => (wX0 cI cJ cZ cA V land there near worn trial fits ways)) (fun _ => P) T 1 6 := by
  refine xTv_of (cc := cX0_checkTinted) (maxL := 2) (by decide) rfl (Nat.le_of_ble_eq_true rfl) ?_
  intro X K hE hth
  have K : xk X l rm_X0_checkTinted D vwCl (xtys cI cJ cZ cA) cX0_checkTinted RX0 wsX0_checkTinted 2 := K
  unfold q_X0_checkTinted at h
  refine x_aload_n (pc := 0) K dX0_checkTinted_0 0 rfl rfl ?_
  refine x_get (pc := 1) (ci := 0) (C := RX0) (T := TX0) (N := 8) K (inX0_checkTinted) 0 rfl rfl 1 (by decide) kX0_checkTinted_0 rfl rfl dX0_checkTinted_1 ?_
  refine x_iload_n (pc := 4) K dX0_checkTinted_4 1 rfl rfl ?_
  refine x_pcallSz (pc := 5) (n := 2) K (c_X0_has l D cI cJ cZ cA there p1 _ h) rfl rfl gX0_checkTinted_X0_has rfl (by decide +kernel) ⟨Nat.le_of_ble_eq_true rfl, Nat.le_of_ble_eq_true rfl⟩ rfl (av := [.int there, .int p1]) rfl (Nat.le_of_ble_eq_true rfl) dX0_checkTinted_5 ⟨Nat.le_of_ble_eq_true rfl, Nat.le_of_ble_eq_true rfl⟩ (fun r1 u9 h => ?_)
  refine x_if_eq (pc := 8) K dX0_checkTinted_8 (tgt := 20) (by decide) (fun c9 => ?_) (fun c9 => ?_)
  · have h := h.1 c9
    refine x_keep [false, false] rfl ?_
    refine x_throw (pc := 20) (cls := "java/lang/IllegalStateException") (text := "the country is not there or has no tint") (names := ["java/lang/RuntimeException", "java/lang/Exception"]) (ik := 191) (is := 193) (ic := 195) K hth hst h (by decide) (by decide +kernel) (by decide +kernel) kX0_checkTinted_1 (by decide +kernel) (by decide +kernel) dX0_checkTinted_20 dX0_checkTinted_23 dX0_checkTinted_24 dX0_checkTinted_26 dX0_checkTinted_29 (by decide) (by decide) (Nat.le_of_ble_eq_true rfl) (Nat.le_of_ble_eq_true rfl) (Nat.le_of_ble_eq_true rfl) (Nat.le_of_ble_eq_true rfl)
  · have h := h.2 c9
    refine x_aload_n (pc := 11) K dX0_checkTinted_11 0 rfl rfl ?_
    refine x_get (pc := 12) (ci := 0) (C := RX0) (T := TX0) (N := 8) K (inX0_checkTinted) 0 rfl rfl 3 (by decide) kX0_checkTinted_2 rfl rfl dX0_checkTinted_12 ?_
    refine x_iload_n (pc := 15) K dX0_checkTinted_15 1 rfl rfl ?_
    have g9 := h.1
    replace h := h.2
    refine x_iald (pc := 16) K 3 0 rfl rfl g9 dX0_checkTinted_16 ?_
    clear g9
    refine x_if_ne (pc := 17) K dX0_checkTinted_17 (tgt := 30) (by decide) (fun c9 => ?_) (fun c9 => ?_)
    · have h := h.1 c9
      refine x_keep [false, false] rfl ?_
      refine x_widen (k := 1) (n := 6) (Nat.le_of_ble_eq_true rfl) (Nat.le_of_ble_eq_true rfl) ?_
      exact hE () _ _ h dX0_checkTinted_30
    · have h := h.2 c9
      refine x_keep [false, false] rfl ?_
      refine x_throw (pc := 20) (cls := "java/lang/IllegalStateException") (text := "the country is not there or has no tint") (names := ["java/lang/RuntimeException", "java/lang/Exception"]) (ik := 191) (is := 193) (ic := 195) K hth hst h (by decide) (by decide +kernel) (by decide +kernel) kX0_checkTinted_1 (by decide +kernel) (by decide +kernel) dX0_checkTinted_20 dX0_checkTinted_23 dX0_checkTinted_24 dX0_checkTinted_26 dX0_checkTinted_29 (by decide) (by decide) (Nat.le_of_ble_eq_true rfl) (Nat.le_of_ble_eq_true rfl) (Nat.le_of_ble_eq_true rfl) (Nat.le_of_ble_eq_true rfl)
abbrev rm_X0_countries : Room := { frames := 9, cells := 0, slots := 0, locals := 160 }
theorem inX0_countries : ∀ w ∈ u_ws RX0 TX0 8, w ∈ wsX0_countries := by decide +kernel
theorem kX0_countries_0 : Cond.fieldLink RX0 13 "FourTints" "there" "I" ∈ wsX0_countries := by decide +kernel
def q_X0_countries (there : Int32) (P : Int32 → Prop) : Prop := q_J6_bitCount_0f7a4 there (fun (r1 : Int32) => P r1)
set_option maxHeartbeats 4000000 in
set_option maxRecDepth 100000 in
theorem c_X0_countries (l : Launch) (D : va_G) (cI cJ cZ cA : ClassId) (V : Nat → Nat) (land : Nat → Int64) (there : Int32) (near : Nat → Int32) (worn : Nat → Int32) (trial : Nat → Int32) (fits : Nat → Int32) (ways : Nat → Int64) (P : Int32 → Prop) (h : q_X0_countries there P) : xMi l yX0_countries wsX0_countries rm_X0_countries D vwCl (xtys cI cJ cZ cA) (wX0 cI cJ cZ cA V land there near worn trial fits ways) [.ref (V 0)] (σ := Unit) (fun _ => (wX0 cI cJ cZ cA V land there near worn trial fits ways)) (fun r _ => P r) := by
  refine xMi_of (cc := cX0_countries) (maxL := 1) (by decide) rfl (Nat.le_of_ble_eq_true rfl) ?_
  intro X K hE
  have K : xk X l rm_X0_countries D vwCl (xtys cI cJ cZ cA) cX0_countries RX0 wsX0_countries 1 := K
  unfold q_X0_countries at h
  refine x_aload_n (pc := 0) K dX0_countries_0 0 rfl rfl ?_
  refine x_get (pc := 1) (ci := 0) (C := RX0) (T := TX0) (N := 8) K (inX0_countries) 0 rfl rfl 1 (by decide) kX0_countries_0 rfl rfl dX0_countries_1 ?_
  refine x_pcallSi (pc := 4) (n := 1) K (c_J6_bitCount_0f7a4 l D cI cJ cZ cA there _ h) rfl rfl gX0_countries_J6_bitCount_0f7a4 rfl (by decide +kernel) ⟨Nat.le_of_ble_eq_true rfl, Nat.le_of_ble_eq_true rfl⟩ rfl (av := [.int there]) rfl (Nat.le_of_ble_eq_true rfl) dX0_countries_4 ⟨Nat.le_of_ble_eq_true rfl, Nat.le_of_ble_eq_true rfl⟩ (fun r1 u9 h => ?_)
  exact hE r1 () _ _ h dX0_countries_7
abbrev rm_X0_allNeighbours : Room := { frames := 9, cells := 0, slots := 0, locals := 160 }
theorem inX0_allNeighbours : ∀ w ∈ u_ws RX0 TX0 8, w ∈ wsX0_allNeighbours := by decide +kernel
theorem kX0_allNeighbours_0 : Cond.fieldLink RX0 27 "FourTints" "fits" "[Z" ∈ wsX0_allNeighbours := by decide +kernel
theorem kX0_allNeighbours_1 : Cond.fieldLink RX0 13 "FourTints" "there" "I" ∈ wsX0_allNeighbours := by decide +kernel
theorem kX0_allNeighbours_2 : Cond.methodLink RX0 92 Lib.Math.max.name ∈ wsX0_allNeighbours := by decide +kernel
theorem kX0_allNeighbours_3 : Cond.static Lib.Math.max.name ∈ wsX0_allNeighbours := by decide +kernel
theorem kX0_allNeighbours_4 : Cond.initialized "java/lang/Math" ∈ wsX0_allNeighbours := by decide +kernel
theorem kX0_allNeighbours_5 : Cond.code Lib.Math.max.name Lib.Math.max.code 2 (some .int) ∈ wsX0_allNeighbours := by decide +kernel
def q_X0_allNeighbours_L8 (there : Int32) (fits : Nat → Int32) (P0 : Int32 → Prop) : Nat → Int32 → Int32 → Prop
  | 0, _, _ => False
  | n + 1, x1, x2 => (((1024 : Int32) ≤ x2 → P0 x1) ∧ (¬ (1024 : Int32) ≤ x2 → xin x2 1024 = true ∧ (((fits x2.toNatClampNeg) = (0 : Int32) → q_X0_allNeighbours_L8 there fits P0 n x1 (x2 + (1 : Int32))) ∧ (¬ (fits x2.toNatClampNeg) = (0 : Int32) → ((¬ (x2 &&& (there ^^^ (-1 : Int32))) = (0 : Int32) → q_X0_allNeighbours_L8 there fits P0 n x1 (x2 + (1 : Int32))) ∧ ((x2 &&& (there ^^^ (-1 : Int32))) = (0 : Int32) → q_J6_bitCount_0f7a4 x2 (fun (r2 : Int32) => xl (xmax x1 r2) (fun y3 => q_X0_allNeighbours_L8 there fits P0 n y3 (x2 + (1 : Int32))))))))))
def q_X0_allNeighbours (there : Int32) (near : Nat → Int32) (fits : Nat → Int32) (P : Int32 → (Nat → Int32) → Prop) : Prop := q_X0_markSetsOfNeighbours near fits (fun (fits_1 : Nat → Int32) => (∃ n4 : Nat, q_X0_allNeighbours_L8 there fits_1 (fun (v5 : Int32) => P v5 fits_1) n4 (0 : Int32) (0 : Int32)))
set_option maxHeartbeats 4000000 in
set_option maxRecDepth 100000 in
theorem w_X0_allNeighbours_L8 {X : xC} {l : Launch} {D : va_G} {cI cJ cZ cA : ClassId} {V : Nat → Nat} (K : xk X l rm_X0_allNeighbours D vwCl (xtys cI cJ cZ cA) cX0_allNeighbours RX0 wsX0_allNeighbours 3) (land : Nat → Int64) (there : Int32) (near : Nat → Int32) (worn : Nat → Int32) (trial : Nat → Int32) (fits : Nat → Int32) (ways : Nat → Int64) (P0 : Int32 → Prop) : ∀ (n : Nat) (x1 : Int32) (x2 : Int32), q_X0_allNeighbours_L8 there fits P0 n x1 x2 → (∀ (z0 : Int32), P0 z0 → xw X 0 0 50 [(1, .int z0)] [] (wX0 cI cJ cZ cA V land there near worn trial fits ways)) → xw X 0 0 8 [(0, .ref (V 0)), (1, .int x1), (2, .int x2)] [] (wX0 cI cJ cZ cA V land there near worn trial fits ways) := by
  intro n
  induction n with
  | zero =>
    intro x1 x2 h
    rw [q_X0_allNeighbours_L8] at h
    exact h.elim
  | succ n ih =>
    intro x1 x2 h k0
    rw [q_X0_allNeighbours_L8] at h
    refine x_iload_n (pc := 8) K dX0_allNeighbours_8 2 rfl rfl ?_
    refine x_sipush (v := (1024)) (pc := 9) K dX0_allNeighbours_9 (by decide) ?_
    refine x_icmp_ge (pc := 12) K dX0_allNeighbours_12 (tgt := 50) (by decide) (fun c9 => ?_) (fun c9 => ?_)
    · have h := h.1 c9
      refine x_keep [false, true, false] rfl ?_
      exact k0 x1 h
    · have h := h.2 c9
      refine x_aload_n (pc := 15) K dX0_allNeighbours_15 0 rfl rfl ?_
      refine x_get (pc := 16) (ci := 0) (C := RX0) (T := TX0) (N := 8) K (inX0_allNeighbours) 0 rfl rfl 5 (by decide) kX0_allNeighbours_0 rfl rfl dX0_allNeighbours_16 ?_
      refine x_iload_n (pc := 19) K dX0_allNeighbours_19 2 rfl rfl ?_
      have g9 := h.1
      replace h := h.2
      refine x_zald (pc := 20) K 5 2 rfl rfl g9 dX0_allNeighbours_20 ?_
      clear g9
      refine x_if_eq (pc := 21) K dX0_allNeighbours_21 (tgt := 44) (by decide) (fun c9 => ?_) (fun c9 => ?_)
      · have h := h.1 c9
        refine x_iinc (v := x2 + (1 : Int32)) (lv' := [(0, .ref (V 0)), (1, .int x1), (2, .int (x2 + (1 : Int32)))]) (pc := 44) K dX0_allNeighbours_44 (k := 2) rfl rfl (by decide) rfl ?_
        refine x_goto (pc := 47) K dX0_allNeighbours_47 (tgt := 8) (by decide) ?_
        exact ih x1 (x2 + (1 : Int32)) h k0
      · have h := h.2 c9
        refine x_iload_n (pc := 24) K dX0_allNeighbours_24 2 rfl rfl ?_
        refine x_aload_n (pc := 25) K dX0_allNeighbours_25 0 rfl rfl ?_
        refine x_get (pc := 26) (ci := 0) (C := RX0) (T := TX0) (N := 8) K (inX0_allNeighbours) 0 rfl rfl 1 (by decide) kX0_allNeighbours_1 rfl rfl dX0_allNeighbours_26 ?_
        refine x_iconst (v := (-1)) (pc := 29) K dX0_allNeighbours_29 (by decide) ?_
        refine x_ixor (pc := 30) K dX0_allNeighbours_30 ?_
        refine x_iand (pc := 31) K dX0_allNeighbours_31 ?_
        refine x_if_ne (pc := 32) K dX0_allNeighbours_32 (tgt := 44) (by decide) (fun c9 => ?_) (fun c9 => ?_)
        · have h := h.1 c9
          refine x_iinc (v := x2 + (1 : Int32)) (lv' := [(0, .ref (V 0)), (1, .int x1), (2, .int (x2 + (1 : Int32)))]) (pc := 44) K dX0_allNeighbours_44 (k := 2) rfl rfl (by decide) rfl ?_
          refine x_goto (pc := 47) K dX0_allNeighbours_47 (tgt := 8) (by decide) ?_
          exact ih x1 (x2 + (1 : Int32)) h k0
        · have h := h.2 c9
          refine x_iload_n (pc := 35) K dX0_allNeighbours_35 1 rfl rfl ?_
          refine x_iload_n (pc := 36) K dX0_allNeighbours_36 2 rfl rfl ?_
          refine x_pcallSi (pc := 37) (n := 1) K (c_J6_bitCount_0f7a4 l D cI cJ cZ cA x2 _ h) rfl rfl gX0_allNeighbours_J6_bitCount_0f7a4 rfl (by decide +kernel) ⟨Nat.le_of_ble_eq_true rfl, Nat.le_of_ble_eq_true rfl⟩ rfl (av := [.int x2]) rfl (Nat.le_of_ble_eq_true rfl) dX0_allNeighbours_37 ⟨Nat.le_of_ble_eq_true rfl, Nat.le_of_ble_eq_true rfl⟩ (fun r2 u9 h => ?_)
          refine x_mmax (pc := 40) K kX0_allNeighbours_2 kX0_allNeighbours_3 kX0_allNeighbours_4 kX0_allNeighbours_5 ⟨Nat.le_of_ble_eq_true rfl, Nat.le_of_ble_eq_true rfl⟩ ⟨Nat.le_of_ble_eq_true rfl, Nat.le_of_ble_eq_true rfl⟩ dX0_allNeighbours_40 ?_
          obtain ⟨y3, ey3, h⟩ := xl_o h
          refine x_topi ey3 ?_
          clear ey3
          refine x_istore_n (lv' := [(0, .ref (V 0)), (1, .int y3), (2, .int x2)]) (pc := 43) K dX0_allNeighbours_43 rfl (by decide) rfl ?_
          refine x_iinc (v := x2 + (1 : Int32)) (lv' := [(0, .ref (V 0)), (1, .int y3), (2, .int (x2 + (1 : Int32)))]) (pc := 44) K dX0_allNeighbours_44 (k := 2) rfl rfl (by decide) rfl ?_
          refine x_goto (pc := 47) K dX0_allNeighbours_47 (tgt := 8) (by decide) ?_
          exact ih y3 (x2 + (1 : Int32)) h k0
set_option maxHeartbeats 4000000 in
set_option maxRecDepth 100000 in
theorem c_X0_allNeighbours (l : Launch) (D : va_G) (cI cJ cZ cA : ClassId) (V : Nat → Nat) (land : Nat → Int64) (there : Int32) (near : Nat → Int32) (worn : Nat → Int32) (trial : Nat → Int32) (fits : Nat → Int32) (ways : Nat → Int64) (P : Int32 → (Nat → Int32) → Prop) (h : q_X0_allNeighbours there near fits P) : xMi l yX0_allNeighbours wsX0_allNeighbours rm_X0_allNeighbours D vwCl (xtys cI cJ cZ cA) (wX0 cI cJ cZ cA V land there near worn trial fits ways) [.ref (V 0)] (σ := (Nat → Int32)) (fun u => (wX0 cI cJ cZ cA V land there near worn trial u ways)) (fun r u => P r u) := by
  refine xMi_of (cc := cX0_allNeighbours) (maxL := 3) (by decide) rfl (Nat.le_of_ble_eq_true rfl) ?_
  intro X K hE
  have K : xk X l rm_X0_allNeighbours D vwCl (xtys cI cJ cZ cA) cX0_allNeighbours RX0 wsX0_allNeighbours 3 := K
  unfold q_X0_allNeighbours at h
  refine x_aload_n (pc := 0) K dX0_allNeighbours_0 0 rfl rfl ?_
  refine x_callVv (pc := 1) (n := 0) K (c_X0_markSetsOfNeighbours l D cI cJ cZ cA V land there near worn trial fits ways _ h) rfl rfl gX0_allNeighbours_X0_markSetsOfNeighbours rfl (by decide +kernel) ⟨Nat.le_of_ble_eq_true rfl, Nat.le_of_ble_eq_true rfl⟩ rfl (av := []) (b := V 0) (ci := 0) (q0 := 0) rfl rfl rfl (Nat.le_of_ble_eq_true rfl) [0, 1, 2, 3, 4, 5, 6] [] (wr := []) rfl rfl rfl rfl (by decide) dX0_allNeighbours_1 ⟨Nat.le_of_ble_eq_true rfl, Nat.le_of_ble_eq_true rfl⟩ (fun fits_1 h => ?_)
  refine x_ws (ws' := (wX0 cI cJ cZ cA V land there near worn trial fits_1 ways)) rfl ?_
  refine x_iconst (v := (0)) (pc := 4) K dX0_allNeighbours_4 (by decide) ?_
  refine x_istore_n (lv' := [(0, .ref (V 0)), (1, .int (0 : Int32))]) (pc := 5) K dX0_allNeighbours_5 rfl (by decide) rfl ?_
  refine x_iconst (v := (0)) (pc := 6) K dX0_allNeighbours_6 (by decide) ?_
  refine x_istore_n (lv' := [(0, .ref (V 0)), (1, .int (0 : Int32)), (2, .int (0 : Int32))]) (pc := 7) K dX0_allNeighbours_7 rfl (by decide) rfl ?_
  obtain ⟨n4, h⟩ := h
  refine w_X0_allNeighbours_L8 K land there near worn trial fits_1 ways _ n4 (0 : Int32) (0 : Int32) h (fun v5 h => ?_)
  refine x_iload_n (pc := 50) K dX0_allNeighbours_50 0 rfl rfl ?_
  exact hE v5 fits_1 _ _ h dX0_allNeighbours_51
abbrev rm_X0_conflicts : Room := { frames := 9, cells := 0, slots := 0, locals := 160 }
theorem inX0_conflicts : ∀ w ∈ u_ws RX0 TX0 8, w ∈ wsX0_conflicts := by decide +kernel
theorem kX0_conflicts_0 : Cond.fieldLink RX0 21 "FourTints" "worn" "[I" ∈ wsX0_conflicts := by decide +kernel
theorem kX0_conflicts_1 : Cond.fieldLink RX0 17 "FourTints" "near" "[I" ∈ wsX0_conflicts := by decide +kernel
def q_X0_conflicts_L4 (near : Nat → Int32) (worn : Nat → Int32) (P0 : Int32 → Prop) : Nat → Int32 → Int32 → Prop
  | 0, _, _ => False
  | n + 1, x1, x2 => (((10 : Int32) ≤ x2 → P0 x1) ∧ (¬ (10 : Int32) ≤ x2 → xin x2 10 = true ∧ (((worn x2.toNatClampNeg) = (0 : Int32) → q_X0_conflicts_L4 near worn P0 n x1 (x2 + (1 : Int32))) ∧ (¬ (worn x2.toNatClampNeg) = (0 : Int32) → xin x2 10 = true ∧ xin x2 10 = true ∧ q_X0_wearing (worn x2.toNatClampNeg) worn (fun (r1 : Int32) => q_J6_bitCount_0f7a4 ((near x2.toNatClampNeg) &&& r1) (fun (r2 : Int32) => xl (x1 + r2) (fun y3 => q_X0_conflicts_L4 near worn P0 n y3 (x2 + (1 : Int32)))))))))
def q_X0_conflicts (near : Nat → Int32) (worn : Nat → Int32) (P : Int32 → Prop) : Prop := (∃ n4 : Nat, q_X0_conflicts_L4 near worn (fun (v5 : Int32) => P (v5 >>> ((1 : Int32) &&& 31))) n4 (0 : Int32) (0 : Int32))
set_option maxHeartbeats 4000000 in
set_option maxRecDepth 100000 in
theorem w_X0_conflicts_L4 {X : xC} {l : Launch} {D : va_G} {cI cJ cZ cA : ClassId} {V : Nat → Nat} (K : xk X l rm_X0_conflicts D vwCl (xtys cI cJ cZ cA) cX0_conflicts RX0 wsX0_conflicts 3) (land : Nat → Int64) (there : Int32) (near : Nat → Int32) (worn : Nat → Int32) (trial : Nat → Int32) (fits : Nat → Int32) (ways : Nat → Int64) (P0 : Int32 → Prop) : ∀ (n : Nat) (x1 : Int32) (x2 : Int32), q_X0_conflicts_L4 near worn P0 n x1 x2 → (∀ (z0 : Int32), P0 z0 → xw X 0 0 48 [(1, .int z0)] [] (wX0 cI cJ cZ cA V land there near worn trial fits ways)) → xw X 0 0 4 [(0, .ref (V 0)), (1, .int x1), (2, .int x2)] [] (wX0 cI cJ cZ cA V land there near worn trial fits ways) := by
  intro n
  induction n with
  | zero =>
    intro x1 x2 h
    rw [q_X0_conflicts_L4] at h
    exact h.elim
  | succ n ih =>
    intro x1 x2 h k0
    rw [q_X0_conflicts_L4] at h
    refine x_iload_n (pc := 4) K dX0_conflicts_4 2 rfl rfl ?_
    refine x_bipush (v := (10)) (pc := 5) K dX0_conflicts_5 (by decide) ?_
    refine x_icmp_ge (pc := 7) K dX0_conflicts_7 (tgt := 48) (by decide) (fun c9 => ?_) (fun c9 => ?_)
    · have h := h.1 c9
      refine x_keep [false, true, false] rfl ?_
      exact k0 x1 h
    · have h := h.2 c9
      refine x_aload_n (pc := 10) K dX0_conflicts_10 0 rfl rfl ?_
      refine x_get (pc := 11) (ci := 0) (C := RX0) (T := TX0) (N := 8) K (inX0_conflicts) 0 rfl rfl 3 (by decide) kX0_conflicts_0 rfl rfl dX0_conflicts_11 ?_
      refine x_iload_n (pc := 14) K dX0_conflicts_14 2 rfl rfl ?_
      have g9 := h.1
      replace h := h.2
      refine x_iald (pc := 15) K 3 0 rfl rfl g9 dX0_conflicts_15 ?_
      clear g9
      refine x_if_eq (pc := 16) K dX0_conflicts_16 (tgt := 42) (by decide) (fun c9 => ?_) (fun c9 => ?_)
      · have h := h.1 c9
        refine x_iinc (v := x2 + (1 : Int32)) (lv' := [(0, .ref (V 0)), (1, .int x1), (2, .int (x2 + (1 : Int32)))]) (pc := 42) K dX0_conflicts_42 (k := 2) rfl rfl (by decide) rfl ?_
        refine x_goto (pc := 45) K dX0_conflicts_45 (tgt := 4) (by decide) ?_
        exact ih x1 (x2 + (1 : Int32)) h k0
      · have h := h.2 c9
        refine x_iload_n (pc := 19) K dX0_conflicts_19 1 rfl rfl ?_
        refine x_aload_n (pc := 20) K dX0_conflicts_20 0 rfl rfl ?_
        refine x_get (pc := 21) (ci := 0) (C := RX0) (T := TX0) (N := 8) K (inX0_conflicts) 0 rfl rfl 2 (by decide) kX0_conflicts_1 rfl rfl dX0_conflicts_21 ?_
        refine x_iload_n (pc := 24) K dX0_conflicts_24 2 rfl rfl ?_
        have g9 := h.1
        replace h := h.2
        refine x_iald (pc := 25) K 2 0 rfl rfl g9 dX0_conflicts_25 ?_
        clear g9
        refine x_aload_n (pc := 26) K dX0_conflicts_26 0 rfl rfl ?_
        refine x_aload_n (pc := 27) K dX0_conflicts_27 0 rfl rfl ?_
        refine x_get (pc := 28) (ci := 0) (C := RX0) (T := TX0) (N := 8) K (inX0_conflicts) 0 rfl rfl 3 (by decide) kX0_conflicts_0 rfl rfl dX0_conflicts_28 ?_
        refine x_iload_n (pc := 31) K dX0_conflicts_31 2 rfl rfl ?_
        have g9 := h.1
        replace h := h.2
        refine x_iald (pc := 32) K 3 0 rfl rfl g9 dX0_conflicts_32 ?_
        clear g9
        refine x_callVi (pc := 33) (n := 1) K (c_X0_wearing l D cI cJ cZ cA V (worn x2.toNatClampNeg) land there near worn trial fits ways _ h) rfl rfl gX0_conflicts_X0_wearing rfl (by decide +kernel) ⟨Nat.le_of_ble_eq_true rfl, Nat.le_of_ble_eq_true rfl⟩ rfl (av := [.int (worn x2.toNatClampNeg)]) (b := V 0) (ci := 0) (q0 := 0) rfl rfl rfl (Nat.le_of_ble_eq_true rfl) [0, 1, 2, 3, 4, 5, 6] [] (wr := []) rfl rfl rfl rfl (by decide) dX0_conflicts_33 ⟨Nat.le_of_ble_eq_true rfl, Nat.le_of_ble_eq_true rfl⟩ (fun r1 u9 h => ?_)
        refine x_ws (ws' := (wX0 cI cJ cZ cA V land there near worn trial fits ways)) rfl ?_
        refine x_iand (pc := 36) K dX0_conflicts_36 ?_
        refine x_pcallSi (pc := 37) (n := 1) K (c_J6_bitCount_0f7a4 l D cI cJ cZ cA ((near x2.toNatClampNeg) &&& r1) _ h) rfl rfl gX0_conflicts_J6_bitCount_0f7a4 rfl (by decide +kernel) ⟨Nat.le_of_ble_eq_true rfl, Nat.le_of_ble_eq_true rfl⟩ rfl (av := [.int ((near x2.toNatClampNeg) &&& r1)]) rfl (Nat.le_of_ble_eq_true rfl) dX0_conflicts_37 ⟨Nat.le_of_ble_eq_true rfl, Nat.le_of_ble_eq_true rfl⟩ (fun r2 u9 h => ?_)
        refine x_iadd (pc := 40) K dX0_conflicts_40 ?_
        obtain ⟨y3, ey3, h⟩ := xl_o h
        refine x_topi ey3 ?_
        clear ey3
        refine x_istore_n (lv' := [(0, .ref (V 0)), (1, .int y3), (2, .int x2)]) (pc := 41) K dX0_conflicts_41 rfl (by decide) rfl ?_
        refine x_iinc (v := x2 + (1 : Int32)) (lv' := [(0, .ref (V 0)), (1, .int y3), (2, .int (x2 + (1 : Int32)))]) (pc := 42) K dX0_conflicts_42 (k := 2) rfl rfl (by decide) rfl ?_
        refine x_goto (pc := 45) K dX0_conflicts_45 (tgt := 4) (by decide) ?_
        exact ih y3 (x2 + (1 : Int32)) h k0
set_option maxHeartbeats 4000000 in
set_option maxRecDepth 100000 in
theorem c_X0_conflicts (l : Launch) (D : va_G) (cI cJ cZ cA : ClassId) (V : Nat → Nat) (land : Nat → Int64) (there : Int32) (near : Nat → Int32) (worn : Nat → Int32) (trial : Nat → Int32) (fits : Nat → Int32) (ways : Nat → Int64) (P : Int32 → Prop) (h : q_X0_conflicts near worn P) : xMi l yX0_conflicts wsX0_conflicts rm_X0_conflicts D vwCl (xtys cI cJ cZ cA) (wX0 cI cJ cZ cA V land there near worn trial fits ways) [.ref (V 0)] (σ := Unit) (fun _ => (wX0 cI cJ cZ cA V land there near worn trial fits ways)) (fun r _ => P r) := by
  refine xMi_of (cc := cX0_conflicts) (maxL := 3) (by decide) rfl (Nat.le_of_ble_eq_true rfl) ?_
  intro X K hE
  have K : xk X l rm_X0_conflicts D vwCl (xtys cI cJ cZ cA) cX0_conflicts RX0 wsX0_conflicts 3 := K
  unfold q_X0_conflicts at h
  refine x_iconst (v := (0)) (pc := 0) K dX0_conflicts_0 (by decide) ?_
  refine x_istore_n (lv' := [(0, .ref (V 0)), (1, .int (0 : Int32))]) (pc := 1) K dX0_conflicts_1 rfl (by decide) rfl ?_
  refine x_iconst (v := (0)) (pc := 2) K dX0_conflicts_2 (by decide) ?_
  refine x_istore_n (lv' := [(0, .ref (V 0)), (1, .int (0 : Int32)), (2, .int (0 : Int32))]) (pc := 3) K dX0_conflicts_3 rfl (by decide) rfl ?_
  obtain ⟨n4, h⟩ := h
  refine w_X0_conflicts_L4 K land there near worn trial fits ways _ n4 (0 : Int32) (0 : Int32) h (fun v5 h => ?_)
  refine x_iload_n (pc := 48) K dX0_conflicts_48 0 rfl rfl ?_
  refine x_iconst (v := (1)) (pc := 49) K dX0_conflicts_49 (by decide) ?_
  refine x_ishr (pc := 50) K dX0_conflicts_50 ?_
  exact hE (v5 >>> ((1 : Int32) &&& 31)) () _ _ h dX0_conflicts_51
abbrev rm_X0_isTinted : Room := { frames := 10, cells := 0, slots := 0, locals := 200 }
theorem inX0_isTinted : ∀ w ∈ u_ws RX0 TX0 8, w ∈ wsX0_isTinted := by decide +kernel
theorem kX0_isTinted_0 : Cond.fieldLink RX0 13 "FourTints" "there" "I" ∈ wsX0_isTinted := by decide +kernel
def q_X0_isTinted (there : Int32) (near : Nat → Int32) (worn : Nat → Int32) (P : Int32 → Prop) : Prop := q_X0_wearing (0 : Int32) worn (fun (r1 : Int32) => ((¬ (there &&& r1) = (0 : Int32) → (xbool (0 : Int32) ∧ P (0 : Int32))) ∧ ((there &&& r1) = (0 : Int32) → q_X0_conflicts near worn (fun (r2 : Int32) => ((¬ r2 = (0 : Int32) → (xbool (0 : Int32) ∧ P (0 : Int32))) ∧ (r2 = (0 : Int32) → (xbool (1 : Int32) ∧ P (1 : Int32))))))))
set_option maxHeartbeats 4000000 in
set_option maxRecDepth 100000 in
theorem c_X0_isTinted (l : Launch) (D : va_G) (cI cJ cZ cA : ClassId) (V : Nat → Nat) (land : Nat → Int64) (there : Int32) (near : Nat → Int32) (worn : Nat → Int32) (trial : Nat → Int32) (fits : Nat → Int32) (ways : Nat → Int64) (P : Int32 → Prop) (h : q_X0_isTinted there near worn P) : xMz l yX0_isTinted wsX0_isTinted rm_X0_isTinted D vwCl (xtys cI cJ cZ cA) (wX0 cI cJ cZ cA V land there near worn trial fits ways) [.ref (V 0)] (σ := Unit) (fun _ => (wX0 cI cJ cZ cA V land there near worn trial fits ways)) (fun r _ => P r) := by
  refine xMz_of (cc := cX0_isTinted) (maxL := 1) (by decide) rfl (Nat.le_of_ble_eq_true rfl) ?_
  intro X K hE
  have K : xk X l rm_X0_isTinted D vwCl (xtys cI cJ cZ cA) cX0_isTinted RX0 wsX0_isTinted 1 := K
  unfold q_X0_isTinted at h
  refine x_aload_n (pc := 0) K dX0_isTinted_0 0 rfl rfl ?_
  refine x_get (pc := 1) (ci := 0) (C := RX0) (T := TX0) (N := 8) K (inX0_isTinted) 0 rfl rfl 1 (by decide) kX0_isTinted_0 rfl rfl dX0_isTinted_1 ?_
  refine x_aload_n (pc := 4) K dX0_isTinted_4 0 rfl rfl ?_
  refine x_iconst (v := (0)) (pc := 5) K dX0_isTinted_5 (by decide) ?_
  refine x_callVi (pc := 6) (n := 1) K (c_X0_wearing l D cI cJ cZ cA V (0 : Int32) land there near worn trial fits ways _ h) rfl rfl gX0_isTinted_X0_wearing rfl (by decide +kernel) ⟨Nat.le_of_ble_eq_true rfl, Nat.le_of_ble_eq_true rfl⟩ rfl (av := [.int (0 : Int32)]) (b := V 0) (ci := 0) (q0 := 0) rfl rfl rfl (Nat.le_of_ble_eq_true rfl) [0, 1, 2, 3, 4, 5, 6] [] (wr := []) rfl rfl rfl rfl (by decide) dX0_isTinted_6 ⟨Nat.le_of_ble_eq_true rfl, Nat.le_of_ble_eq_true rfl⟩ (fun r1 u9 h => ?_)
  refine x_ws (ws' := (wX0 cI cJ cZ cA V land there near worn trial fits ways)) rfl ?_
  refine x_iand (pc := 9) K dX0_isTinted_9 ?_
  refine x_if_ne (pc := 10) K dX0_isTinted_10 (tgt := 24) (by decide) (fun c9 => ?_) (fun c9 => ?_)
  · have h := h.1 c9
    refine x_keep [false] rfl ?_
    refine x_iconst (v := (0)) (pc := 24) K dX0_isTinted_24 (by decide) ?_
    exact hE (0 : Int32) () _ _ h.2 h.1 dX0_isTinted_25
  · have h := h.2 c9
    refine x_aload_n (pc := 13) K dX0_isTinted_13 0 rfl rfl ?_
    refine x_callVi (pc := 14) (n := 0) K (c_X0_conflicts l D cI cJ cZ cA V land there near worn trial fits ways _ h) rfl rfl gX0_isTinted_X0_conflicts rfl (by decide +kernel) ⟨Nat.le_of_ble_eq_true rfl, Nat.le_of_ble_eq_true rfl⟩ rfl (av := []) (b := V 0) (ci := 0) (q0 := 0) rfl rfl rfl (Nat.le_of_ble_eq_true rfl) [0, 1, 2, 3, 4, 5, 6] [] (wr := []) rfl rfl rfl rfl (by decide) dX0_isTinted_14 ⟨Nat.le_of_ble_eq_true rfl, Nat.le_of_ble_eq_true rfl⟩ (fun r2 u9 h => ?_)
    refine x_ws (ws' := (wX0 cI cJ cZ cA V land there near worn trial fits ways)) rfl ?_
    refine x_if_ne (pc := 17) K dX0_isTinted_17 (tgt := 24) (by decide) (fun c9 => ?_) (fun c9 => ?_)
    · have h := h.1 c9
      refine x_keep [false] rfl ?_
      refine x_iconst (v := (0)) (pc := 24) K dX0_isTinted_24 (by decide) ?_
      exact hE (0 : Int32) () _ _ h.2 h.1 dX0_isTinted_25
    · have h := h.2 c9
      refine x_keep [false] rfl ?_
      refine x_iconst (v := (1)) (pc := 20) K dX0_isTinted_20 (by decide) ?_
      refine x_goto (pc := 21) K dX0_isTinted_21 (tgt := 25) (by decide) ?_
      exact hE (1 : Int32) () _ _ h.2 h.1 dX0_isTinted_25
abbrev rm_X0_tintInOrder : Room := { frames := 11, cells := 0, slots := 0, locals := 240 }
theorem inX0_tintInOrder : ∀ w ∈ u_ws RX0 TX0 8, w ∈ wsX0_tintInOrder := by decide +kernel
theorem kX0_tintInOrder_0 : Cond.fieldLink RX0 13 "FourTints" "there" "I" ∈ wsX0_tintInOrder := by decide +kernel
theorem kX0_tintInOrder_1 : Cond.fieldLink RX0 21 "FourTints" "worn" "[I" ∈ wsX0_tintInOrder := by decide +kernel
theorem kX0_tintInOrder_2 : Cond.methodLink RX0 92 Lib.Math.max.name ∈ wsX0_tintInOrder := by decide +kernel
theorem kX0_tintInOrder_3 : Cond.static Lib.Math.max.name ∈ wsX0_tintInOrder := by decide +kernel
theorem kX0_tintInOrder_4 : Cond.initialized "java/lang/Math" ∈ wsX0_tintInOrder := by decide +kernel
theorem kX0_tintInOrder_5 : Cond.code Lib.Math.max.name Lib.Math.max.code 2 (some .int) ∈ wsX0_tintInOrder := by decide +kernel
def q_X0_tintInOrder_L2 (there : Int32) (P0 : (Nat → Int32) → Prop) : Nat → Int32 → (Nat → Int32) → Prop
  | 0, _, _ => False
  | n + 1, x2, worn => (((10 : Int32) ≤ x2 → P0 worn) ∧ (¬ (10 : Int32) ≤ x2 → q_X0_has there x2 (fun (r1 : Int32) => ((r1 = (0 : Int32) → q_X0_tintInOrder_L2 there P0 n (x2 + (1 : Int32)) worn) ∧ (¬ r1 = (0 : Int32) → xin x2 10 = true ∧ q_X0_tintInOrder_L2 there P0 n (x2 + (1 : Int32)) (upd worn x2.toNatClampNeg (0 : Int32)))))))
def q_X0_tintInOrder_L50 (there : Int32) (near : Nat → Int32) (P0 : Int32 → (Nat → Int32) → Prop) : Nat → Int32 → Int32 → (Nat → Int32) → Prop
  | 0, _, _, _ => False
  | n + 1, x2, x3, worn => ((x3 < (0 : Int32) → P0 x2 worn) ∧ (¬ x3 < (0 : Int32) → q_X0_withNeighbours x3 there near (fun (r5 : Int32) => q_X0_giveLeastFree r5 near worn (fun (r7 : Int32) (worn_6 : Nat → Int32) => xl (xmax x2 r7) (fun y8 => q_X0_tintInOrder_L50 there near P0 n y8 (x3 + (-1 : Int32)) worn_6)))))
def q_X0_tintInOrder (p1 : Int32) (there : Int32) (near : Nat → Int32) (worn : Nat → Int32) (P : Int32 → (Nat → Int32) → Prop) : Prop := (∃ n3 : Nat, q_X0_tintInOrder_L2 there (fun (v4 : Nat → Int32) => ((¬ p1 = (0 : Int32) → (∃ n9 : Nat, q_X0_tintInOrder_L50 there near (fun (v10 : Int32) (v11 : Nat → Int32) => P v10 v11) n9 (0 : Int32) (9 : Int32) v4)) ∧ (p1 = (0 : Int32) → q_X0_giveLeastFree there near v4 (fun (r13 : Int32) (worn_12 : Nat → Int32) => P r13 worn_12)))) n3 (0 : Int32) worn)
set_option maxHeartbeats 4000000 in
set_option maxRecDepth 100000 in
theorem w_X0_tintInOrder_L2 {X : xC} {l : Launch} {D : va_G} {cI cJ cZ cA : ClassId} {V : Nat → Nat} (K : xk X l rm_X0_tintInOrder D vwCl (xtys cI cJ cZ cA) cX0_tintInOrder RX0 wsX0_tintInOrder 4) (u1 : Int32) (land : Nat → Int64) (there : Int32) (near : Nat → Int32) (trial : Nat → Int32) (fits : Nat → Int32) (ways : Nat → Int64) (P0 : (Nat → Int32) → Prop) : ∀ (n : Nat) (x2 : Int32) (worn : Nat → Int32), q_X0_tintInOrder_L2 there P0 n x2 worn → (∀ (z0 : Nat → Int32), P0 z0 → xw X 0 0 32 [(0, .ref (V 0)), (1, .int u1)] [] (wX0 cI cJ cZ cA V land there near z0 trial fits ways)) → xw X 0 0 2 [(0, .ref (V 0)), (1, .int u1), (2, .int x2)] [] (wX0 cI cJ cZ cA V land there near worn trial fits ways) := by
  intro n
  induction n with
  | zero =>
    intro x2 worn h
    rw [q_X0_tintInOrder_L2] at h
    exact h.elim
  | succ n ih =>
    intro x2 worn h k0
    rw [q_X0_tintInOrder_L2] at h
    refine x_iload_n (pc := 2) K dX0_tintInOrder_2 2 rfl rfl ?_
    refine x_bipush (v := (10)) (pc := 3) K dX0_tintInOrder_3 (by decide) ?_
    refine x_icmp_ge (pc := 5) K dX0_tintInOrder_5 (tgt := 32) (by decide) (fun c9 => ?_) (fun c9 => ?_)
    · have h := h.1 c9
      refine x_keep [true, true, false] rfl ?_
      exact k0 worn h
    · have h := h.2 c9
      refine x_aload_n (pc := 8) K dX0_tintInOrder_8 0 rfl rfl ?_
      refine x_get (pc := 9) (ci := 0) (C := RX0) (T := TX0) (N := 8) K (inX0_tintInOrder) 0 rfl rfl 1 (by decide) kX0_tintInOrder_0 rfl rfl dX0_tintInOrder_9 ?_
      refine x_iload_n (pc := 12) K dX0_tintInOrder_12 2 rfl rfl ?_
      refine x_pcallSz (pc := 13) (n := 2) K (c_X0_has l D cI cJ cZ cA there x2 _ h) rfl rfl gX0_tintInOrder_X0_has rfl (by decide +kernel) ⟨Nat.le_of_ble_eq_true rfl, Nat.le_of_ble_eq_true rfl⟩ rfl (av := [.int there, .int x2]) rfl (Nat.le_of_ble_eq_true rfl) dX0_tintInOrder_13 ⟨Nat.le_of_ble_eq_true rfl, Nat.le_of_ble_eq_true rfl⟩ (fun r1 u9 h => ?_)
      refine x_if_eq (pc := 16) K dX0_tintInOrder_16 (tgt := 26) (by decide) (fun c9 => ?_) (fun c9 => ?_)
      · have h := h.1 c9
        refine x_iinc (v := x2 + (1 : Int32)) (lv' := [(0, .ref (V 0)), (1, .int u1), (2, .int (x2 + (1 : Int32)))]) (pc := 26) K dX0_tintInOrder_26 (k := 2) rfl rfl (by decide) rfl ?_
        refine x_goto (pc := 29) K dX0_tintInOrder_29 (tgt := 2) (by decide) ?_
        exact ih (x2 + (1 : Int32)) worn h k0
      · have h := h.2 c9
        refine x_aload_n (pc := 19) K dX0_tintInOrder_19 0 rfl rfl ?_
        refine x_get (pc := 20) (ci := 0) (C := RX0) (T := TX0) (N := 8) K (inX0_tintInOrder) 0 rfl rfl 3 (by decide) kX0_tintInOrder_1 rfl rfl dX0_tintInOrder_20 ?_
        refine x_iload_n (pc := 23) K dX0_tintInOrder_23 2 rfl rfl ?_
        refine x_iconst (v := (0)) (pc := 24) K dX0_tintInOrder_24 (by decide) ?_
        have g9 := h.1
        replace h := h.2
        refine x_iast (ws' := (wX0 cI cJ cZ cA V land there near (upd worn x2.toNatClampNeg (0 : Int32)) trial fits ways)) (pc := 25) K 3 0 rfl rfl rfl g9 dX0_tintInOrder_25 ?_
        clear g9
        refine x_iinc (v := x2 + (1 : Int32)) (lv' := [(0, .ref (V 0)), (1, .int u1), (2, .int (x2 + (1 : Int32)))]) (pc := 26) K dX0_tintInOrder_26 (k := 2) rfl rfl (by decide) rfl ?_
        refine x_goto (pc := 29) K dX0_tintInOrder_29 (tgt := 2) (by decide) ?_
        exact ih (x2 + (1 : Int32)) (upd worn x2.toNatClampNeg (0 : Int32)) h k0
set_option maxHeartbeats 4000000 in
set_option maxRecDepth 100000 in
theorem w_X0_tintInOrder_L50 {X : xC} {l : Launch} {D : va_G} {cI cJ cZ cA : ClassId} {V : Nat → Nat} (K : xk X l rm_X0_tintInOrder D vwCl (xtys cI cJ cZ cA) cX0_tintInOrder RX0 wsX0_tintInOrder 4) (land : Nat → Int64) (there : Int32) (near : Nat → Int32) (trial : Nat → Int32) (fits : Nat → Int32) (ways : Nat → Int64) (P0 : Int32 → (Nat → Int32) → Prop) : ∀ (n : Nat) (x2 : Int32) (x3 : Int32) (worn : Nat → Int32), q_X0_tintInOrder_L50 there near P0 n x2 x3 worn → (∀ (z0 : Int32) (z1 : Nat → Int32), P0 z0 z1 → xw X 0 0 74 [(2, .int z0)] [] (wX0 cI cJ cZ cA V land there near z1 trial fits ways)) → xw X 0 0 50 [(0, .ref (V 0)), (2, .int x2), (3, .int x3)] [] (wX0 cI cJ cZ cA V land there near worn trial fits ways) := by
  intro n
  induction n with
  | zero =>
    intro x2 x3 worn h
    rw [q_X0_tintInOrder_L50] at h
    exact h.elim
  | succ n ih =>
    intro x2 x3 worn h k0
    rw [q_X0_tintInOrder_L50] at h
    refine x_iload_n (pc := 50) K dX0_tintInOrder_50 2 rfl rfl ?_
    refine x_if_lt (pc := 51) K dX0_tintInOrder_51 (tgt := 74) (by decide) (fun c9 => ?_) (fun c9 => ?_)
    · have h := h.1 c9
      refine x_keep [false, true, false] rfl ?_
      exact k0 x2 worn h
    · have h := h.2 c9
      refine x_iload_n (pc := 54) K dX0_tintInOrder_54 1 rfl rfl ?_
      refine x_aload_n (pc := 55) K dX0_tintInOrder_55 0 rfl rfl ?_
      refine x_aload_n (pc := 56) K dX0_tintInOrder_56 0 rfl rfl ?_
      refine x_iload_n (pc := 57) K dX0_tintInOrder_57 2 rfl rfl ?_
      refine x_callVi (pc := 58) (n := 1) K (c_X0_withNeighbours l D cI cJ cZ cA V x3 land there near worn trial fits ways _ h) rfl rfl gX0_tintInOrder_X0_withNeighbours rfl (by decide +kernel) ⟨Nat.le_of_ble_eq_true rfl, Nat.le_of_ble_eq_true rfl⟩ rfl (av := [.int x3]) (b := V 0) (ci := 0) (q0 := 0) rfl rfl rfl (Nat.le_of_ble_eq_true rfl) [0, 1, 2, 3, 4, 5, 6] [] (wr := []) rfl rfl rfl rfl (by decide) dX0_tintInOrder_58 ⟨Nat.le_of_ble_eq_true rfl, Nat.le_of_ble_eq_true rfl⟩ (fun r5 u9 h => ?_)
      refine x_ws (ws' := (wX0 cI cJ cZ cA V land there near worn trial fits ways)) rfl ?_
      refine x_callVi (pc := 61) (n := 1) K (c_X0_giveLeastFree l D cI cJ cZ cA V r5 land there near worn trial fits ways _ h) rfl rfl gX0_tintInOrder_X0_giveLeastFree rfl (by decide +kernel) ⟨Nat.le_of_ble_eq_true rfl, Nat.le_of_ble_eq_true rfl⟩ rfl (av := [.int r5]) (b := V 0) (ci := 0) (q0 := 0) rfl rfl rfl (Nat.le_of_ble_eq_true rfl) [0, 1, 2, 3, 4, 5, 6] [] (wr := []) rfl rfl rfl rfl (by decide) dX0_tintInOrder_61 ⟨Nat.le_of_ble_eq_true rfl, Nat.le_of_ble_eq_true rfl⟩ (fun r7 worn_6 h => ?_)
      refine x_ws (ws' := (wX0 cI cJ cZ cA V land there near worn_6 trial fits ways)) rfl ?_
      refine x_mmax (pc := 64) K kX0_tintInOrder_2 kX0_tintInOrder_3 kX0_tintInOrder_4 kX0_tintInOrder_5 ⟨Nat.le_of_ble_eq_true rfl, Nat.le_of_ble_eq_true rfl⟩ ⟨Nat.le_of_ble_eq_true rfl, Nat.le_of_ble_eq_true rfl⟩ dX0_tintInOrder_64 ?_
      obtain ⟨y8, ey8, h⟩ := xl_o h
      refine x_topi ey8 ?_
      clear ey8
      refine x_istore_n (lv' := [(0, .ref (V 0)), (2, .int y8), (3, .int x3)]) (pc := 67) K dX0_tintInOrder_67 rfl (by decide) rfl ?_
      refine x_iinc (v := x3 + (-1 : Int32)) (lv' := [(0, .ref (V 0)), (2, .int y8), (3, .int (x3 + (-1 : Int32)))]) (pc := 68) K dX0_tintInOrder_68 (k := 2) rfl rfl (by decide) rfl ?_
      refine x_goto (pc := 71) K dX0_tintInOrder_71 (tgt := 50) (by decide) ?_
      exact ih y8 (x3 + (-1 : Int32)) worn_6 h k0
set_option maxHeartbeats 4000000 in
set_option maxRecDepth 100000 in
theorem c_X0_tintInOrder (l : Launch) (D : va_G) (cI cJ cZ cA : ClassId) (V : Nat → Nat) (p1 : Int32) (land : Nat → Int64) (there : Int32) (near : Nat → Int32) (worn : Nat → Int32) (trial : Nat → Int32) (fits : Nat → Int32) (ways : Nat → Int64) (P : Int32 → (Nat → Int32) → Prop) (h : q_X0_tintInOrder p1 there near worn P) : xMi l yX0_tintInOrder wsX0_tintInOrder rm_X0_tintInOrder D vwCl (xtys cI cJ cZ cA) (wX0 cI cJ cZ cA V land there near worn trial fits ways) [.ref (V 0), .int p1] (σ := (Nat → Int32)) (fun u => (wX0 cI cJ cZ cA V land there near u trial fits ways)) (fun r u => P r u) := by
  refine xMi_of (cc := cX0_tintInOrder) (maxL := 4) (by decide) rfl (Nat.le_of_ble_eq_true rfl) ?_
  intro X K hE
  have K : xk X l rm_X0_tintInOrder D vwCl (xtys cI cJ cZ cA) cX0_tintInOrder RX0 wsX0_tintInOrder 4 := K
  unfold q_X0_tintInOrder at h
  refine x_iconst (v := (0)) (pc := 0) K dX0_tintInOrder_0 (by decide) ?_
  refine x_istore_n (lv' := [(0, .ref (V 0)), (1, .int p1), (2, .int (0 : Int32))]) (pc := 1) K dX0_tintInOrder_1 rfl (by decide) rfl ?_
  obtain ⟨n3, h⟩ := h
  refine w_X0_tintInOrder_L2 K p1 land there near trial fits ways _ n3 (0 : Int32) worn h (fun v4 h => ?_)
  refine x_iload_n (pc := 32) K dX0_tintInOrder_32 1 rfl rfl ?_
  refine x_if_ne (pc := 33) K dX0_tintInOrder_33 (tgt := 45) (by decide) (fun c9 => ?_) (fun c9 => ?_)
  · have h := h.1 c9
    refine x_keep [true, false] rfl ?_
    refine x_iconst (v := (0)) (pc := 45) K dX0_tintInOrder_45 (by decide) ?_
    refine x_istore_n (lv' := [(0, .ref (V 0)), (2, .int (0 : Int32))]) (pc := 46) K dX0_tintInOrder_46 rfl (by decide) rfl ?_
    refine x_bipush (v := (9)) (pc := 47) K dX0_tintInOrder_47 (by decide) ?_
    refine x_istore_n (lv' := [(0, .ref (V 0)), (2, .int (0 : Int32)), (3, .int (9 : Int32))]) (pc := 49) K dX0_tintInOrder_49 rfl (by decide) rfl ?_
    obtain ⟨n9, h⟩ := h
    refine w_X0_tintInOrder_L50 K land there near trial fits ways _ n9 (0 : Int32) (9 : Int32) v4 h (fun v10 v11 h => ?_)
    refine x_iload_n (pc := 74) K dX0_tintInOrder_74 0 rfl rfl ?_
    exact hE v10 v11 _ _ h dX0_tintInOrder_75
  · have h := h.2 c9
    refine x_keep [true, false] rfl ?_
    refine x_aload_n (pc := 36) K dX0_tintInOrder_36 0 rfl rfl ?_
    refine x_aload_n (pc := 37) K dX0_tintInOrder_37 0 rfl rfl ?_
    refine x_get (pc := 38) (ci := 0) (C := RX0) (T := TX0) (N := 8) K (inX0_tintInOrder) 0 rfl rfl 1 (by decide) kX0_tintInOrder_0 rfl rfl dX0_tintInOrder_38 ?_
    refine x_callVi (pc := 41) (n := 1) K (c_X0_giveLeastFree l D cI cJ cZ cA V there land there near v4 trial fits ways _ h) rfl rfl gX0_tintInOrder_X0_giveLeastFree rfl (by decide +kernel) ⟨Nat.le_of_ble_eq_true rfl, Nat.le_of_ble_eq_true rfl⟩ rfl (av := [.int there]) (b := V 0) (ci := 0) (q0 := 0) rfl rfl rfl (Nat.le_of_ble_eq_true rfl) [0, 1, 2, 3, 4, 5, 6] [] (wr := []) rfl rfl rfl rfl (by decide) dX0_tintInOrder_41 ⟨Nat.le_of_ble_eq_true rfl, Nat.le_of_ble_eq_true rfl⟩ (fun r13 worn_12 h => ?_)
    refine x_ws (ws' := (wX0 cI cJ cZ cA V land there near worn_12 trial fits ways)) rfl ?_
    exact hE r13 worn_12 _ _ h dX0_tintInOrder_44
abbrev rm_X0_fewestTints : Room := { frames := 26, cells := 0, slots := 0, locals := 840 }
def q_X0_fewestTints (there : Int32) (near : Nat → Int32) (trial : Nat → Int32) (P : Int32 → (Nat → Int32) → Prop) : Prop := q_X0_tryFewest there near trial (fun (r2 : Int32) (trial_1 : Nat → Int32) => P r2 trial_1)
set_option maxHeartbeats 4000000 in
set_option maxRecDepth 100000 in
theorem c_X0_fewestTints (l : Launch) (D : va_G) (cI cJ cZ cA : ClassId) (V : Nat → Nat) (land : Nat → Int64) (there : Int32) (near : Nat → Int32) (worn : Nat → Int32) (trial : Nat → Int32) (fits : Nat → Int32) (ways : Nat → Int64) (P : Int32 → (Nat → Int32) → Prop) (h : q_X0_fewestTints there near trial P) : xMi l yX0_fewestTints wsX0_fewestTints rm_X0_fewestTints D vwCl (xtys cI cJ cZ cA) (wX0 cI cJ cZ cA V land there near worn trial fits ways) [.ref (V 0)] (σ := (Nat → Int32)) (fun u => (wX0 cI cJ cZ cA V land there near worn u fits ways)) (fun r u => P r u) := by
  refine xMi_of (cc := cX0_fewestTints) (maxL := 1) (by decide) rfl (Nat.le_of_ble_eq_true rfl) ?_
  intro X K hE
  have K : xk X l rm_X0_fewestTints D vwCl (xtys cI cJ cZ cA) cX0_fewestTints RX0 wsX0_fewestTints 1 := K
  unfold q_X0_fewestTints at h
  refine x_aload_n (pc := 0) K dX0_fewestTints_0 0 rfl rfl ?_
  refine x_callVi (pc := 1) (n := 0) K (c_X0_tryFewest l D cI cJ cZ cA V land there near worn trial fits ways _ h) rfl rfl gX0_fewestTints_X0_tryFewest rfl (by decide +kernel) ⟨Nat.le_of_ble_eq_true rfl, Nat.le_of_ble_eq_true rfl⟩ rfl (av := []) (b := V 0) (ci := 0) (q0 := 0) rfl rfl rfl (Nat.le_of_ble_eq_true rfl) [0, 1, 2, 3, 4, 5, 6] [] (wr := []) rfl rfl rfl rfl (by decide) dX0_fewestTints_1 ⟨Nat.le_of_ble_eq_true rfl, Nat.le_of_ble_eq_true rfl⟩ (fun r2 trial_1 h => ?_)
  refine x_ws (ws' := (wX0 cI cJ cZ cA V land there near worn trial_1 fits ways)) rfl ?_
  exact hE r2 trial_1 _ _ h dX0_fewestTints_4
abbrev rm_X0_tintWithFewest : Room := { frames := 26, cells := 0, slots := 0, locals := 840 }
theorem inX0_tintWithFewest : ∀ w ∈ u_ws RX0 TX0 8, w ∈ wsX0_tintWithFewest := by decide +kernel
theorem kX0_tintWithFewest_0 : Cond.fieldLink RX0 13 "FourTints" "there" "I" ∈ wsX0_tintWithFewest := by decide +kernel
theorem kX0_tintWithFewest_1 : Cond.fieldLink RX0 21 "FourTints" "worn" "[I" ∈ wsX0_tintWithFewest := by decide +kernel
theorem kX0_tintWithFewest_2 : Cond.fieldLink RX0 24 "FourTints" "trial" "[I" ∈ wsX0_tintWithFewest := by decide +kernel
def q_X0_tintWithFewest_L7 (there : Int32) (trial : Nat → Int32) (P0 : (Nat → Int32) → Prop) : Nat → Int32 → (Nat → Int32) → Prop
  | 0, _, _ => False
  | n + 1, x2, worn => (((10 : Int32) ≤ x2 → P0 worn) ∧ (¬ (10 : Int32) ≤ x2 → q_X0_has there x2 (fun (r3 : Int32) => ((r3 = (0 : Int32) → q_X0_tintWithFewest_L7 there trial P0 n (x2 + (1 : Int32)) worn) ∧ (¬ r3 = (0 : Int32) → xin x2 10 = true ∧ xin x2 10 = true ∧ q_X0_tintWithFewest_L7 there trial P0 n (x2 + (1 : Int32)) (upd worn x2.toNatClampNeg (trial x2.toNatClampNeg)))))))
def q_X0_tintWithFewest (there : Int32) (near : Nat → Int32) (worn : Nat → Int32) (trial : Nat → Int32) (P : Int32 → (Nat → Int32) → (Nat → Int32) → Prop) : Prop := q_X0_tryFewest there near trial (fun (r2 : Int32) (trial_1 : Nat → Int32) => (∃ n5 : Nat, q_X0_tintWithFewest_L7 there trial_1 (fun (v6 : Nat → Int32) => P r2 v6 trial_1) n5 (0 : Int32) worn))
set_option maxHeartbeats 4000000 in
set_option maxRecDepth 100000 in
theorem w_X0_tintWithFewest_L7 {X : xC} {l : Launch} {D : va_G} {cI cJ cZ cA : ClassId} {V : Nat → Nat} (K : xk X l rm_X0_tintWithFewest D vwCl (xtys cI cJ cZ cA) cX0_tintWithFewest RX0 wsX0_tintWithFewest 3) (u1 : Int32) (land : Nat → Int64) (there : Int32) (near : Nat → Int32) (trial : Nat → Int32) (fits : Nat → Int32) (ways : Nat → Int64) (P0 : (Nat → Int32) → Prop) : ∀ (n : Nat) (x2 : Int32) (worn : Nat → Int32), q_X0_tintWithFewest_L7 there trial P0 n x2 worn → (∀ (z0 : Nat → Int32), P0 z0 → xw X 0 0 42 [(1, .int u1)] [] (wX0 cI cJ cZ cA V land there near z0 trial fits ways)) → xw X 0 0 7 [(0, .ref (V 0)), (1, .int u1), (2, .int x2)] [] (wX0 cI cJ cZ cA V land there near worn trial fits ways) := by
  intro n
  induction n with
  | zero =>
    intro x2 worn h
    rw [q_X0_tintWithFewest_L7] at h
    exact h.elim
  | succ n ih =>
    intro x2 worn h k0
    rw [q_X0_tintWithFewest_L7] at h
    refine x_iload_n (pc := 7) K dX0_tintWithFewest_7 2 rfl rfl ?_
    refine x_bipush (v := (10)) (pc := 8) K dX0_tintWithFewest_8 (by decide) ?_
    refine x_icmp_ge (pc := 10) K dX0_tintWithFewest_10 (tgt := 42) (by decide) (fun c9 => ?_) (fun c9 => ?_)
    · have h := h.1 c9
      refine x_keep [false, true, false] rfl ?_
      exact k0 worn h
    · have h := h.2 c9
      refine x_aload_n (pc := 13) K dX0_tintWithFewest_13 0 rfl rfl ?_
      refine x_get (pc := 14) (ci := 0) (C := RX0) (T := TX0) (N := 8) K (inX0_tintWithFewest) 0 rfl rfl 1 (by decide) kX0_tintWithFewest_0 rfl rfl dX0_tintWithFewest_14 ?_
      refine x_iload_n (pc := 17) K dX0_tintWithFewest_17 2 rfl rfl ?_
      refine x_pcallSz (pc := 18) (n := 2) K (c_X0_has l D cI cJ cZ cA there x2 _ h) rfl rfl gX0_tintWithFewest_X0_has rfl (by decide +kernel) ⟨Nat.le_of_ble_eq_true rfl, Nat.le_of_ble_eq_true rfl⟩ rfl (av := [.int there, .int x2]) rfl (Nat.le_of_ble_eq_true rfl) dX0_tintWithFewest_18 ⟨Nat.le_of_ble_eq_true rfl, Nat.le_of_ble_eq_true rfl⟩ (fun r3 u9 h => ?_)
      refine x_if_eq (pc := 21) K dX0_tintWithFewest_21 (tgt := 36) (by decide) (fun c9 => ?_) (fun c9 => ?_)
      · have h := h.1 c9
        refine x_iinc (v := x2 + (1 : Int32)) (lv' := [(0, .ref (V 0)), (1, .int u1), (2, .int (x2 + (1 : Int32)))]) (pc := 36) K dX0_tintWithFewest_36 (k := 2) rfl rfl (by decide) rfl ?_
        refine x_goto (pc := 39) K dX0_tintWithFewest_39 (tgt := 7) (by decide) ?_
        exact ih (x2 + (1 : Int32)) worn h k0
      · have h := h.2 c9
        refine x_aload_n (pc := 24) K dX0_tintWithFewest_24 0 rfl rfl ?_
        refine x_get (pc := 25) (ci := 0) (C := RX0) (T := TX0) (N := 8) K (inX0_tintWithFewest) 0 rfl rfl 3 (by decide) kX0_tintWithFewest_1 rfl rfl dX0_tintWithFewest_25 ?_
        refine x_iload_n (pc := 28) K dX0_tintWithFewest_28 2 rfl rfl ?_
        refine x_aload_n (pc := 29) K dX0_tintWithFewest_29 0 rfl rfl ?_
        refine x_get (pc := 30) (ci := 0) (C := RX0) (T := TX0) (N := 8) K (inX0_tintWithFewest) 0 rfl rfl 4 (by decide) kX0_tintWithFewest_2 rfl rfl dX0_tintWithFewest_30 ?_
        refine x_iload_n (pc := 33) K dX0_tintWithFewest_33 2 rfl rfl ?_
        have g9 := h.1
        replace h := h.2
        refine x_iald (pc := 34) K 4 0 rfl rfl g9 dX0_tintWithFewest_34 ?_
        clear g9
        have g9 := h.1
        replace h := h.2
        refine x_iast (ws' := (wX0 cI cJ cZ cA V land there near (upd worn x2.toNatClampNeg (trial x2.toNatClampNeg)) trial fits ways)) (pc := 35) K 3 0 rfl rfl rfl g9 dX0_tintWithFewest_35 ?_
        clear g9
        refine x_iinc (v := x2 + (1 : Int32)) (lv' := [(0, .ref (V 0)), (1, .int u1), (2, .int (x2 + (1 : Int32)))]) (pc := 36) K dX0_tintWithFewest_36 (k := 2) rfl rfl (by decide) rfl ?_
        refine x_goto (pc := 39) K dX0_tintWithFewest_39 (tgt := 7) (by decide) ?_
        exact ih (x2 + (1 : Int32)) (upd worn x2.toNatClampNeg (trial x2.toNatClampNeg)) h k0
set_option maxHeartbeats 4000000 in
set_option maxRecDepth 100000 in
theorem c_X0_tintWithFewest (l : Launch) (D : va_G) (cI cJ cZ cA : ClassId) (V : Nat → Nat) (land : Nat → Int64) (there : Int32) (near : Nat → Int32) (worn : Nat → Int32) (trial : Nat → Int32) (fits : Nat → Int32) (ways : Nat → Int64) (P : Int32 → (Nat → Int32) → (Nat → Int32) → Prop) (h : q_X0_tintWithFewest there near worn trial P) : xMi l yX0_tintWithFewest wsX0_tintWithFewest rm_X0_tintWithFewest D vwCl (xtys cI cJ cZ cA) (wX0 cI cJ cZ cA V land there near worn trial fits ways) [.ref (V 0)] (σ := (Nat → Int32) × (Nat → Int32)) (fun u => (wX0 cI cJ cZ cA V land there near u.1 u.2 fits ways)) (fun r u => P r u.1 u.2) := by
  refine xMi_of (cc := cX0_tintWithFewest) (maxL := 3) (by decide) rfl (Nat.le_of_ble_eq_true rfl) ?_
  intro X K hE
  have K : xk X l rm_X0_tintWithFewest D vwCl (xtys cI cJ cZ cA) cX0_tintWithFewest RX0 wsX0_tintWithFewest 3 := K
  unfold q_X0_tintWithFewest at h
  refine x_aload_n (pc := 0) K dX0_tintWithFewest_0 0 rfl rfl ?_
  refine x_callVi (pc := 1) (n := 0) K (c_X0_tryFewest l D cI cJ cZ cA V land there near worn trial fits ways _ h) rfl rfl gX0_tintWithFewest_X0_tryFewest rfl (by decide +kernel) ⟨Nat.le_of_ble_eq_true rfl, Nat.le_of_ble_eq_true rfl⟩ rfl (av := []) (b := V 0) (ci := 0) (q0 := 0) rfl rfl rfl (Nat.le_of_ble_eq_true rfl) [0, 1, 2, 3, 4, 5, 6] [] (wr := []) rfl rfl rfl rfl (by decide) dX0_tintWithFewest_1 ⟨Nat.le_of_ble_eq_true rfl, Nat.le_of_ble_eq_true rfl⟩ (fun r2 trial_1 h => ?_)
  refine x_ws (ws' := (wX0 cI cJ cZ cA V land there near worn trial_1 fits ways)) rfl ?_
  refine x_istore_n (lv' := [(0, .ref (V 0)), (1, .int r2)]) (pc := 4) K dX0_tintWithFewest_4 rfl (by decide) rfl ?_
  refine x_iconst (v := (0)) (pc := 5) K dX0_tintWithFewest_5 (by decide) ?_
  refine x_istore_n (lv' := [(0, .ref (V 0)), (1, .int r2), (2, .int (0 : Int32))]) (pc := 6) K dX0_tintWithFewest_6 rfl (by decide) rfl ?_
  obtain ⟨n5, h⟩ := h
  refine w_X0_tintWithFewest_L7 K r2 land there near trial_1 fits ways _ n5 (0 : Int32) worn h (fun v6 h => ?_)
  refine x_iload_n (pc := 42) K dX0_tintWithFewest_42 0 rfl rfl ?_
  exact hE r2 (v6, trial_1) _ _ h dX0_tintWithFewest_43
abbrev rm_X0_paint : Room := { frames := 12, cells := 2, slots := 12, locals := 280 }
def q_X0_paint (p1 : Int32) (p2 : Int32) (p3 : Int32) (land : Nat → Int64) (near : Nat → Int32) (P : Int32 → (Nat → Int64) → Int32 → (Nat → Int32) → Prop) (T : String → Prop) : Prop := q_X0_checkCell p1 p2 (q_X0_checkPaint p3 (q_X0_block p1 p2 p1 p2 (fun (r1 : Int64) => q_X0_ownerOf r1 land (fun (r2 : Int32) => q_X0_cover r1 p3 land near (fun (land_3 : Nat → Int64) (there_4 : Int32) (near_5 : Nat → Int32) => P r2 land_3 there_4 near_5)))) T) T
set_option maxHeartbeats 4000000 in
set_option maxRecDepth 100000 in
theorem c_X0_paint (l : Launch) (D : va_G) (cI cJ cZ cA : ClassId) (hst : l.stackTraces = false) (V : Nat → Nat) (p1 : Int32) (p2 : Int32) (p3 : Int32) (land : Nat → Int64) (there : Int32) (near : Nat → Int32) (worn : Nat → Int32) (trial : Nat → Int32) (fits : Nat → Int32) (ways : Nat → Int64) (P : Int32 → (Nat → Int64) → Int32 → (Nat → Int32) → Prop) (T : String → Prop) (h : q_X0_paint p1 p2 p3 land near P T) : xTi l yX0_paint wsX0_paint rm_X0_paint D vwCl (xtys cI cJ cZ cA) (wX0 cI cJ cZ cA V land there near worn trial fits ways) [.ref (V 0), .int p1, .int p2, .int p3] RX0 [(180, "there is no such row or column"), (185, "neither a country nor sea")] (σ := (Nat → Int64) × Int32 × (Nat → Int32)) (fun u => (wX0 cI cJ cZ cA V u.1 u.2.1 u.2.2 worn trial fits ways)) (fun r u => P r u.1 u.2.1 u.2.2) T 2 12 := by
  refine xTi_of (cc := cX0_paint) (maxL := 7) (by decide) rfl (Nat.le_of_ble_eq_true rfl) ?_
  intro X K hE hth
  have K : xk X l rm_X0_paint D vwCl (xtys cI cJ cZ cA) cX0_paint RX0 wsX0_paint 7 := K
  unfold q_X0_paint at h
  refine x_iload_n (pc := 0) K dX0_paint_0 1 rfl rfl ?_
  refine x_iload_n (pc := 1) K dX0_paint_1 2 rfl rfl ?_
  refine x_ptcallSv (pc := 2) (n := 2) K (xth_E hth) (by decide) (c_X0_checkCell l D cI cJ cZ cA hst p1 p2 _ T h) rfl rfl gX0_paint_X0_checkCell rfl (by decide +kernel) ⟨Nat.le_of_ble_eq_true rfl, Nat.le_of_ble_eq_true rfl⟩ rfl (av := [.int p1, .int p2]) rfl (Nat.le_of_ble_eq_true rfl) dX0_paint_2 ⟨Nat.le_of_ble_eq_true rfl, Nat.le_of_ble_eq_true rfl⟩ (fun E hT => x_out K hth hT (Nat.le_of_ble_eq_true rfl) (Nat.le_of_ble_eq_true rfl)) (fun u9 h => ?_)
  refine x_iload_n (pc := 5) K dX0_paint_5 3 rfl rfl ?_
  refine x_ptcallSv (pc := 6) (n := 1) K (xth_E hth) (by decide) (c_X0_checkPaint l D cI cJ cZ cA hst p3 _ T h) rfl rfl gX0_paint_X0_checkPaint rfl (by decide +kernel) ⟨Nat.le_of_ble_eq_true rfl, Nat.le_of_ble_eq_true rfl⟩ rfl (av := [.int p3]) rfl (Nat.le_of_ble_eq_true rfl) dX0_paint_6 ⟨Nat.le_of_ble_eq_true rfl, Nat.le_of_ble_eq_true rfl⟩ (fun E hT => x_out K hth hT (Nat.le_of_ble_eq_true rfl) (Nat.le_of_ble_eq_true rfl)) (fun u9 h => ?_)
  refine x_iload_n (pc := 9) K dX0_paint_9 1 rfl rfl ?_
  refine x_iload_n (pc := 10) K dX0_paint_10 2 rfl rfl ?_
  refine x_iload_n (pc := 11) K dX0_paint_11 1 rfl rfl ?_
  refine x_iload_n (pc := 12) K dX0_paint_12 2 rfl rfl ?_
  refine x_pcallSl (pc := 13) (n := 4) K (c_X0_block l D cI cJ cZ cA p1 p2 p1 p2 _ h) rfl rfl gX0_paint_X0_block rfl (by decide +kernel) ⟨Nat.le_of_ble_eq_true rfl, Nat.le_of_ble_eq_true rfl⟩ rfl (av := [.int p1, .int p2, .int p1, .int p2]) rfl (Nat.le_of_ble_eq_true rfl) dX0_paint_13 ⟨Nat.le_of_ble_eq_true rfl, Nat.le_of_ble_eq_true rfl⟩ (fun r1 u9 h => ?_)
  refine x_lstore (lv' := [(0, .ref (V 0)), (1, .int p1), (2, .int p2), (3, .int p3), (4, .long r1)]) (pc := 16) K dX0_paint_16 (by decide) rfl ?_
  refine x_aload_n (pc := 18) K dX0_paint_18 0 rfl rfl ?_
  refine x_lload (pc := 19) K dX0_paint_19 4 rfl ?_
  refine x_callVi (pc := 21) (n := 1) K (c_X0_ownerOf l D cI cJ cZ cA V r1 land there near worn trial fits ways _ h) rfl rfl gX0_paint_X0_ownerOf rfl (by decide +kernel) ⟨Nat.le_of_ble_eq_true rfl, Nat.le_of_ble_eq_true rfl⟩ rfl (av := [.long r1]) (b := V 0) (ci := 0) (q0 := 0) rfl rfl rfl (Nat.le_of_ble_eq_true rfl) [0, 1, 2, 3, 4, 5, 6] [] (wr := []) rfl rfl rfl rfl (by decide) dX0_paint_21 ⟨Nat.le_of_ble_eq_true rfl, Nat.le_of_ble_eq_true rfl⟩ (fun r2 u9 h => ?_)
  refine x_ws (ws' := (wX0 cI cJ cZ cA V land there near worn trial fits ways)) rfl ?_
  refine x_istore (lv' := [(0, .ref (V 0)), (1, .int p1), (2, .int p2), (3, .int p3), (4, .long r1), (6, .int r2)]) (pc := 24) K dX0_paint_24 (by decide) rfl ?_
  refine x_aload_n (pc := 26) K dX0_paint_26 0 rfl rfl ?_
  refine x_lload (pc := 27) K dX0_paint_27 4 rfl ?_
  refine x_iload_n (pc := 29) K dX0_paint_29 3 rfl rfl ?_
  refine x_callVv (pc := 30) (n := 2) K (c_X0_cover l D cI cJ cZ cA V r1 p3 land there near worn trial fits ways _ h) rfl rfl gX0_paint_X0_cover rfl (by decide +kernel) ⟨Nat.le_of_ble_eq_true rfl, Nat.le_of_ble_eq_true rfl⟩ rfl (av := [.long r1, .int p3]) (b := V 0) (ci := 0) (q0 := 0) rfl rfl rfl (Nat.le_of_ble_eq_true rfl) [0, 1, 2, 3, 4, 5, 6] [] (wr := []) rfl rfl rfl rfl (by decide) dX0_paint_30 ⟨Nat.le_of_ble_eq_true rfl, Nat.le_of_ble_eq_true rfl⟩ (fun u9 h => ?_)
  obtain ⟨land_3, there_4, near_5⟩ := u9
  refine x_ws (ws' := (wX0 cI cJ cZ cA V land_3 there_4 near_5 worn trial fits ways)) rfl ?_
  refine x_iload (pc := 33) K dX0_paint_33 5 rfl ?_
  exact hE r2 (land_3, there_4, near_5) _ _ h dX0_paint_35
abbrev rm_X0_paintBlock : Room := { frames := 12, cells := 4, slots := 24, locals := 280 }
theorem kX0_paintBlock_0 : ∀ w ∈ Cond.classLink RX0 59 "java/lang/IllegalArgumentException" :: Cond.initialized "java/lang/IllegalArgumentException" :: (vx_atS RX0 63 "java/lang/IllegalArgumentException" ["java/lang/RuntimeException", "java/lang/Exception"]).filter goodWord, w ∈ wsX0_paintBlock := by decide +kernel
theorem kX0_paintBlock_1 : Cond.constantLong RX0 70 (-1) ∈ wsX0_paintBlock := by decide +kernel
def q_X0_paintBlock (p1 : Int32) (p2 : Int32) (p3 : Int32) (p4 : Int32) (p5 : Int32) (land : Nat → Int64) (near : Nat → Int32) (P : Int32 → (Nat → Int64) → Int32 → (Nat → Int32) → Prop) (T : String → Prop) : Prop := q_X0_checkCell p1 p2 (q_X0_checkCell p3 p4 (q_X0_checkPaint p5 (((p3 < p1 → T "java/lang/IllegalArgumentException") ∧ (¬ p3 < p1 → ((p2 ≤ p4 → q_X0_block p1 p2 p3 p4 (fun (r1 : Int64) => q_X0_cellsOf p5 land (fun (r2 : Int64) => q_J13_bitCount_95d88 (r1 &&& (r2 ^^^ (-1 : Int64))) (fun (r3 : Int32) => q_X0_cover r1 p5 land near (fun (land_4 : Nat → Int64) (there_5 : Int32) (near_6 : Nat → Int32) => P r3 land_4 there_5 near_6))))) ∧ (¬ p2 ≤ p4 → T "java/lang/IllegalArgumentException"))))) T) T) T
set_option maxHeartbeats 4000000 in
set_option maxRecDepth 100000 in
theorem c_X0_paintBlock (l : Launch) (D : va_G) (cI cJ cZ cA : ClassId) (hst : l.stackTraces = false) (V : Nat → Nat) (p1 : Int32) (p2 : Int32) (p3 : Int32) (p4 : Int32) (p5 : Int32) (land : Nat → Int64) (there : Int32) (near : Nat → Int32) (worn : Nat → Int32) (trial : Nat → Int32) (fits : Nat → Int32) (ways : Nat → Int64) (P : Int32 → (Nat → Int64) → Int32 → (Nat → Int32) → Prop) (T : String → Prop) (h : q_X0_paintBlock p1 p2 p3 p4 p5 land near P T) : xTi l yX0_paintBlock wsX0_paintBlock rm_X0_paintBlock D vwCl (xtys cI cJ cZ cA) (wX0 cI cJ cZ cA V land there near worn trial fits ways) [.ref (V 0), .int p1, .int p2, .int p3, .int p4, .int p5] RX0 [(61, "the block ends before it begins"), (180, "there is no such row or column"), (185, "neither a country nor sea")] (σ := (Nat → Int64) × Int32 × (Nat → Int32)) (fun u => (wX0 cI cJ cZ cA V u.1 u.2.1 u.2.2 worn trial fits ways)) (fun r u => P r u.1 u.2.1 u.2.2) T 4 24 := by
  refine xTi_of (cc := cX0_paintBlock) (maxL := 9) (by decide) rfl (Nat.le_of_ble_eq_true rfl) ?_
  intro X K hE hth
  have K : xk X l rm_X0_paintBlock D vwCl (xtys cI cJ cZ cA) cX0_paintBlock RX0 wsX0_paintBlock 9 := K
  unfold q_X0_paintBlock at h
  refine x_iload_n (pc := 0) K dX0_paintBlock_0 1 rfl rfl ?_
  refine x_iload_n (pc := 1) K dX0_paintBlock_1 2 rfl rfl ?_
  refine x_ptcallSv (pc := 2) (n := 2) K (xth_E hth) (by decide) (c_X0_checkCell l D cI cJ cZ cA hst p1 p2 _ T h) rfl rfl gX0_paintBlock_X0_checkCell rfl (by decide +kernel) ⟨Nat.le_of_ble_eq_true rfl, Nat.le_of_ble_eq_true rfl⟩ rfl (av := [.int p1, .int p2]) rfl (Nat.le_of_ble_eq_true rfl) dX0_paintBlock_2 ⟨Nat.le_of_ble_eq_true rfl, Nat.le_of_ble_eq_true rfl⟩ (fun E hT => x_out K hth hT (Nat.le_of_ble_eq_true rfl) (Nat.le_of_ble_eq_true rfl)) (fun u9 h => ?_)
  refine x_iload_n (pc := 5) K dX0_paintBlock_5 3 rfl rfl ?_
  refine x_iload (pc := 6) K dX0_paintBlock_6 4 rfl ?_
  refine x_ptcallSv (pc := 8) (n := 2) K (xth_E hth) (by decide) (c_X0_checkCell l D cI cJ cZ cA hst p3 p4 _ T h) rfl rfl gX0_paintBlock_X0_checkCell rfl (by decide +kernel) ⟨Nat.le_of_ble_eq_true rfl, Nat.le_of_ble_eq_true rfl⟩ rfl (av := [.int p3, .int p4]) rfl (Nat.le_of_ble_eq_true rfl) dX0_paintBlock_8 ⟨Nat.le_of_ble_eq_true rfl, Nat.le_of_ble_eq_true rfl⟩ (fun E hT => x_out K hth hT (Nat.le_of_ble_eq_true rfl) (Nat.le_of_ble_eq_true rfl)) (fun u9 h => ?_)
  refine x_iload (pc := 11) K dX0_paintBlock_11 5 rfl ?_
  refine x_ptcallSv (pc := 13) (n := 1) K (xth_E hth) (by decide) (c_X0_checkPaint l D cI cJ cZ cA hst p5 _ T h) rfl rfl gX0_paintBlock_X0_checkPaint rfl (by decide +kernel) ⟨Nat.le_of_ble_eq_true rfl, Nat.le_of_ble_eq_true rfl⟩ rfl (av := [.int p5]) rfl (Nat.le_of_ble_eq_true rfl) dX0_paintBlock_13 ⟨Nat.le_of_ble_eq_true rfl, Nat.le_of_ble_eq_true rfl⟩ (fun E hT => x_out K hth hT (Nat.le_of_ble_eq_true rfl) (Nat.le_of_ble_eq_true rfl)) (fun u9 h => ?_)
  refine x_iload_n (pc := 16) K dX0_paintBlock_16 3 rfl rfl ?_
  refine x_iload_n (pc := 17) K dX0_paintBlock_17 1 rfl rfl ?_
  refine x_icmp_lt (pc := 18) K dX0_paintBlock_18 (tgt := 27) (by decide) (fun c9 => ?_) (fun c9 => ?_)
  · have h := h.1 c9
    refine x_keep [false, false, false, false, false, false] rfl ?_
    refine x_throw (pc := 27) (cls := "java/lang/IllegalArgumentException") (text := "the block ends before it begins") (names := ["java/lang/RuntimeException", "java/lang/Exception"]) (ik := 59) (is := 61) (ic := 63) K hth hst h (by decide) (by decide +kernel) (by decide +kernel) kX0_paintBlock_0 (by decide +kernel) (by decide +kernel) dX0_paintBlock_27 dX0_paintBlock_30 dX0_paintBlock_31 dX0_paintBlock_33 dX0_paintBlock_36 (by decide) (by decide) (Nat.le_of_ble_eq_true rfl) (Nat.le_of_ble_eq_true rfl) (Nat.le_of_ble_eq_true rfl) (Nat.le_of_ble_eq_true rfl)
  · have h := h.2 c9
    refine x_iload (pc := 21) K dX0_paintBlock_21 4 rfl ?_
    refine x_iload_n (pc := 23) K dX0_paintBlock_23 2 rfl rfl ?_
    refine x_icmp_ge (pc := 24) K dX0_paintBlock_24 (tgt := 37) (by decide) (fun c9 => ?_) (fun c9 => ?_)
    · have h := h.1 c9
      refine x_iload_n (pc := 37) K dX0_paintBlock_37 1 rfl rfl ?_
      refine x_iload_n (pc := 38) K dX0_paintBlock_38 2 rfl rfl ?_
      refine x_iload_n (pc := 39) K dX0_paintBlock_39 3 rfl rfl ?_
      refine x_iload (pc := 40) K dX0_paintBlock_40 4 rfl ?_
      refine x_pcallSl (pc := 42) (n := 4) K (c_X0_block l D cI cJ cZ cA p1 p2 p3 p4 _ h) rfl rfl gX0_paintBlock_X0_block rfl (by decide +kernel) ⟨Nat.le_of_ble_eq_true rfl, Nat.le_of_ble_eq_true rfl⟩ rfl (av := [.int p1, .int p2, .int p3, .int p4]) rfl (Nat.le_of_ble_eq_true rfl) dX0_paintBlock_42 ⟨Nat.le_of_ble_eq_true rfl, Nat.le_of_ble_eq_true rfl⟩ (fun r1 u9 h => ?_)
      refine x_lstore (lv' := [(0, .ref (V 0)), (1, .int p1), (2, .int p2), (3, .int p3), (4, .int p4), (5, .int p5), (6, .long r1)]) (pc := 45) K dX0_paintBlock_45 (by decide) rfl ?_
      refine x_lload (pc := 47) K dX0_paintBlock_47 6 rfl ?_
      refine x_aload_n (pc := 49) K dX0_paintBlock_49 0 rfl rfl ?_
      refine x_iload (pc := 50) K dX0_paintBlock_50 5 rfl ?_
      refine x_callVl (pc := 52) (n := 1) K (c_X0_cellsOf l D cI cJ cZ cA V p5 land there near worn trial fits ways _ h) rfl rfl gX0_paintBlock_X0_cellsOf rfl (by decide +kernel) ⟨Nat.le_of_ble_eq_true rfl, Nat.le_of_ble_eq_true rfl⟩ rfl (av := [.int p5]) (b := V 0) (ci := 0) (q0 := 0) rfl rfl rfl (Nat.le_of_ble_eq_true rfl) [0, 1, 2, 3, 4, 5, 6] [] (wr := []) rfl rfl rfl rfl (by decide) dX0_paintBlock_52 ⟨Nat.le_of_ble_eq_true rfl, Nat.le_of_ble_eq_true rfl⟩ (fun r2 u9 h => ?_)
      refine x_ws (ws' := (wX0 cI cJ cZ cA V land there near worn trial fits ways)) rfl ?_
      refine x_ldc2 (pc := 55) (v := (-1)) K kX0_paintBlock_1 dX0_paintBlock_55 ?_
      refine x_lxor (pc := 58) K dX0_paintBlock_58 ?_
      refine x_land (pc := 59) K dX0_paintBlock_59 ?_
      refine x_pcallSi (pc := 60) (n := 1) K (c_J13_bitCount_95d88 l D cI cJ cZ cA (r1 &&& (r2 ^^^ (-1 : Int64))) _ h) rfl rfl gX0_paintBlock_J13_bitCount_95d88 rfl (by decide +kernel) ⟨Nat.le_of_ble_eq_true rfl, Nat.le_of_ble_eq_true rfl⟩ rfl (av := [.long (r1 &&& (r2 ^^^ (-1 : Int64)))]) rfl (Nat.le_of_ble_eq_true rfl) dX0_paintBlock_60 ⟨Nat.le_of_ble_eq_true rfl, Nat.le_of_ble_eq_true rfl⟩ (fun r3 u9 h => ?_)
      refine x_istore (lv' := [(0, .ref (V 0)), (1, .int p1), (2, .int p2), (3, .int p3), (4, .int p4), (5, .int p5), (6, .long r1), (8, .int r3)]) (pc := 63) K dX0_paintBlock_63 (by decide) rfl ?_
      refine x_aload_n (pc := 65) K dX0_paintBlock_65 0 rfl rfl ?_
      refine x_lload (pc := 66) K dX0_paintBlock_66 6 rfl ?_
      refine x_iload (pc := 68) K dX0_paintBlock_68 5 rfl ?_
      refine x_callVv (pc := 70) (n := 2) K (c_X0_cover l D cI cJ cZ cA V r1 p5 land there near worn trial fits ways _ h) rfl rfl gX0_paintBlock_X0_cover rfl (by decide +kernel) ⟨Nat.le_of_ble_eq_true rfl, Nat.le_of_ble_eq_true rfl⟩ rfl (av := [.long r1, .int p5]) (b := V 0) (ci := 0) (q0 := 0) rfl rfl rfl (Nat.le_of_ble_eq_true rfl) [0, 1, 2, 3, 4, 5, 6] [] (wr := []) rfl rfl rfl rfl (by decide) dX0_paintBlock_70 ⟨Nat.le_of_ble_eq_true rfl, Nat.le_of_ble_eq_true rfl⟩ (fun u9 h => ?_)
      obtain ⟨land_4, there_5, near_6⟩ := u9
      refine x_ws (ws' := (wX0 cI cJ cZ cA V land_4 there_5 near_6 worn trial fits ways)) rfl ?_
      refine x_iload (pc := 73) K dX0_paintBlock_73 7 rfl ?_
      refine x_widen (k := 4) (n := 24) (Nat.le_of_ble_eq_true rfl) (Nat.le_of_ble_eq_true rfl) ?_
      exact hE r3 (land_4, there_5, near_6) _ _ h dX0_paintBlock_75
    · have h := h.2 c9
      refine x_keep [false, false, false, false, false, false] rfl ?_
      refine x_throw (pc := 27) (cls := "java/lang/IllegalArgumentException") (text := "the block ends before it begins") (names := ["java/lang/RuntimeException", "java/lang/Exception"]) (ik := 59) (is := 61) (ic := 63) K hth hst h (by decide) (by decide +kernel) (by decide +kernel) kX0_paintBlock_0 (by decide +kernel) (by decide +kernel) dX0_paintBlock_27 dX0_paintBlock_30 dX0_paintBlock_31 dX0_paintBlock_33 dX0_paintBlock_36 (by decide) (by decide) (Nat.le_of_ble_eq_true rfl) (Nat.le_of_ble_eq_true rfl) (Nat.le_of_ble_eq_true rfl) (Nat.le_of_ble_eq_true rfl)
