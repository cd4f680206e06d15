/-! the law's wrappers: what the class answers, or which exception it throws -/
def q_L_paint (p1 : Int32) (p2 : Int32) (p3 : Int32) (land : Nat → Int64) (near : Nat → Int32) (there : Int32) (P : Int32 → (Nat → Int64) → Int32 → (Nat → Int32) → Prop) : Prop := q_X0_paint p1 p2 p3 land near (fun (r : Int32) (o0 : Nat → Int64) (o1 : Int32) (o2 : Nat → Int32) => P r o0 o1 o2) (fun E => (E = "java/lang/IndexOutOfBoundsException" ∧ P (-1000001 : Int32) land there near) ∨ (E = "java/lang/IllegalArgumentException" ∧ P (-1000002 : Int32) land there near))
abbrev rm_L_paint : Room := { frames := 13, cells := 2, slots := 12, locals := 320 }
abbrev rm0_L_paint : Room := { frames := 13, cells := 0, slots := 0, locals := 320 }
theorem kL_paint_0 : Cond.classLink RL 16 "java/lang/IndexOutOfBoundsException" ∈ wsL_paint := by decide +kernel
theorem kL_paint_1 : Cond.constant RL 18 (-1000001) ∈ wsL_paint := by decide +kernel
theorem kL_paint_2 : Cond.classLink RL 19 "java/lang/IllegalArgumentException" ∈ wsL_paint := by decide +kernel
theorem kL_paint_3 : Cond.constant RL 21 (-1000002) ∈ wsL_paint := by decide +kernel
set_option maxHeartbeats 4000000 in
set_option maxRecDepth 100000 in
theorem c_L_paint (l : Launch) (D : va_G) (cI cJ cZ cA : ClassId) (hst : l.stackTraces = false) (V : Nat → Nat) (p1 : Int32) (p2 : Int32) (p3 : Int32) (land : Nat → Int64) (there : Int32) (near : Nat → Int32) (worn : Nat → Int32) (trial : Nat → Int32) (fits : Nat → Int32) (ways : Nat → Int64) (joined : Nat → Nat → Int32) (P : Int32 → (Nat → Int64) → Int32 → (Nat → Int32) → Prop) (h : q_L_paint p1 p2 p3 land near there P) : xHi l yL_paint wsL_paint rm_L_paint D vwCl (xtys cI cJ cZ cA) (wX0J cI cJ cZ cA V land there near worn trial fits ways joined) [.ref (V 0), .int p1, .int p2, .int p3] RX0 [(180, "there is no such row or column"), (185, "neither a country nor sea")] (σ := (Nat → Int64) × Int32 × (Nat → Int32)) (fun u => (wX0J cI cJ cZ cA V u.1 u.2.1 u.2.2 worn trial fits ways joined)) (fun r u => P r u.1 u.2.1 u.2.2) 2 12 := by
  refine xHi_of (cc := cL_paint) (maxL := 5) (hh := [(0, 7, 8, 16), (0, 7, 13, 19)]) (by decide) rfl (Nat.le_of_ble_eq_true rfl) ?_
  intro X K hE ht hX
  have K : xk X l rm_L_paint D vwCl (xtys cI cJ cZ cA) cL_paint RL wsL_paint 5 := K
  unfold q_L_paint at h
  refine x_aload_n (pc := 0) K dL_paint_0 0 rfl rfl ?_
  refine x_iload_n (pc := 1) K dL_paint_1 1 rfl rfl ?_
  refine x_iload_n (pc := 2) K dL_paint_2 2 rfl rfl ?_
  refine x_iload_n (pc := 3) K dL_paint_3 3 rfl rfl ?_
  refine x_tcallVi (pc := 4) (n := 3) K hE (by decide) (c_X0_paint l D cI cJ cZ cA hst V p1 p2 p3 land there near worn trial fits ways _ _ h) rfl rfl gL_paint_X0_paint rfl (by decide +kernel) ⟨Nat.le_of_ble_eq_true rfl, Nat.le_of_ble_eq_true rfl⟩ rfl (av := [.int p1, .int p2, .int p3]) (b := V 0) (ci := 0) (q0 := 0) rfl rfl rfl (Nat.le_of_ble_eq_true rfl) [0, 1, 2, 3, 4, 5, 6] [7, 8, 9, 10, 11, 12, 13, 14, 15, 16, 17] (wr := (wJ cI cA (V 7) (fun k => V (k + 8)) joined)) rfl rfl rfl rfl (by decide) dL_paint_4 ⟨Nat.le_of_ble_eq_true rfl, Nat.le_of_ble_eq_true rfl⟩ (fun E hT => ?_) (fun r u9 h => ?_)
  · rcases hT with ⟨rfl, hp⟩ | ⟨rfl, hp⟩
    · refine x_catch K hE ht [] (0, 7, 8, 16) [(0, 7, 13, 19)] rfl (fun z hz => absurd hz List.not_mem_nil) (by decide) (by decide) kL_paint_0 (by decide) (fun q => ?_)
      refine x_astore (lv' := [(0, .ref (V 0)), (1, .int p1), (2, .int p2), (3, .int p3), (4, .ref q)]) (pc := 8) K dL_paint_8 (by decide) rfl ?_
      refine x_ldc (pc := 10) (v := (-1000001)) K kL_paint_1 dL_paint_10 ?_
      refine x_wsub (ws' := (wX0J cI cJ cZ cA V land there near worn trial fits ways joined)) [11, 12, 13, 14, 15, 16, 17, 0, 1, 2, 3, 4, 5, 6, 7, 8, 9, 10] rfl rfl ?_
      exact hX (-1000001) (land, there, near) _ _ hp dL_paint_12
    · refine x_catch K hE ht [(0, 7, 8, 16)] (0, 7, 13, 19) [] rfl (fun z hz => by obtain rfl := List.mem_singleton.mp hz; exact ⟨by decide, "java/lang/IndexOutOfBoundsException", kL_paint_0, by decide⟩) (by decide) (by decide) kL_paint_2 (by decide) (fun q => ?_)
      refine x_astore (lv' := [(0, .ref (V 0)), (1, .int p1), (2, .int p2), (3, .int p3), (4, .ref q)]) (pc := 13) K dL_paint_13 (by decide) rfl ?_
      refine x_ldc (pc := 15) (v := (-1000002)) K kL_paint_3 dL_paint_15 ?_
      refine x_wsub (ws' := (wX0J cI cJ cZ cA V land there near worn trial fits ways joined)) [11, 12, 13, 14, 15, 16, 17, 0, 1, 2, 3, 4, 5, 6, 7, 8, 9, 10] rfl rfl ?_
      exact hX (-1000002) (land, there, near) _ _ hp dL_paint_17
  · obtain ⟨o0, o1, o2⟩ := u9
    refine x_wsub (ws' := (wX0J cI cJ cZ cA V o0 o1 o2 worn trial fits ways joined)) [11, 12, 13, 14, 15, 16, 17, 0, 1, 2, 3, 4, 5, 6, 7, 8, 9, 10] rfl rfl ?_
    exact hX r (o0, o1, o2) _ _ h dL_paint_7
def q_L_paintBlock (p1 : Int32) (p2 : Int32) (p3 : Int32) (p4 : Int32) (p5 : Int32) (land : Nat → Int64) (near : Nat → Int32) (there : Int32) (P : Int32 → (Nat → Int64) → Int32 → (Nat → Int32) → Prop) : Prop := q_X0_paintBlock p1 p2 p3 p4 p5 land near (fun (r : Int32) (o0 : Nat → Int64) (o1 : Int32) (o2 : Nat → Int32) => P r o0 o1 o2) (fun E => (E = "java/lang/IndexOutOfBoundsException" ∧ P (-1000001 : Int32) land there near) ∨ (E = "java/lang/IllegalArgumentException" ∧ P (-1000002 : Int32) land there near))
abbrev rm_L_paintBlock : Room := { frames := 13, cells := 4, slots := 24, locals := 320 }
abbrev rm0_L_paintBlock : Room := { frames := 13, cells := 0, slots := 0, locals := 320 }
theorem kL_paintBlock_0 : Cond.classLink RL 16 "java/lang/IndexOutOfBoundsException" ∈ wsL_paintBlock := by decide +kernel
theorem kL_paintBlock_1 : Cond.constant RL 18 (-1000001) ∈ wsL_paintBlock := by decide +kernel
theorem kL_paintBlock_2 : Cond.classLink RL 19 "java/lang/IllegalArgumentException" ∈ wsL_paintBlock := by decide +kernel
theorem kL_paintBlock_3 : Cond.constant RL 21 (-1000002) ∈ wsL_paintBlock := by decide +kernel
set_option maxHeartbeats 4000000 in
set_option maxRecDepth 100000 in
theorem c_L_paintBlock (l : Launch) (D : va_G) (cI cJ cZ cA : ClassId) (hst : l.stackTraces = false) (V : Nat → Nat) (p1 : Int32) (p2 : Int32) (p3 : Int32) (p4 : Int32) (p5 : Int32) (land : Nat → Int64) (there : Int32) (near : Nat → Int32) (worn : Nat → Int32) (trial : Nat → Int32) (fits : Nat → Int32) (ways : Nat → Int64) (joined : Nat → Nat → Int32) (P : Int32 → (Nat → Int64) → Int32 → (Nat → Int32) → Prop) (h : q_L_paintBlock p1 p2 p3 p4 p5 land near there P) : xHi l yL_paintBlock wsL_paintBlock rm_L_paintBlock D vwCl (xtys cI cJ cZ cA) (wX0J cI cJ cZ cA V land there near worn trial fits ways joined) [.ref (V 0), .int p1, .int p2, .int p3, .int p4, .int p5] RX0 [(61, "the block ends before it begins"), (180, "there is no such row or column"), (185, "neither a country nor sea")] (σ := (Nat → Int64) × Int32 × (Nat → Int32)) (fun u => (wX0J cI cJ cZ cA V u.1 u.2.1 u.2.2 worn trial fits ways joined)) (fun r u => P r u.1 u.2.1 u.2.2) 4 24 := by
  refine xHi_of (cc := cL_paintBlock) (maxL := 7) (hh := [(0, 11, 12, 16), (0, 11, 17, 19)]) (by decide) rfl (Nat.le_of_ble_eq_true rfl) ?_
  intro X K hE ht hX
  have K : xk X l rm_L_paintBlock D vwCl (xtys cI cJ cZ cA) cL_paintBlock RL wsL_paintBlock 7 := K
  unfold q_L_paintBlock at h
  refine x_aload_n (pc := 0) K dL_paintBlock_0 0 rfl rfl ?_
  refine x_iload_n (pc := 1) K dL_paintBlock_1 1 rfl rfl ?_
  refine x_iload_n (pc := 2) K dL_paintBlock_2 2 rfl rfl ?_
  refine x_iload_n (pc := 3) K dL_paintBlock_3 3 rfl rfl ?_
  refine x_iload (pc := 4) K dL_paintBlock_4 4 rfl ?_
  refine x_iload (pc := 6) K dL_paintBlock_6 5 rfl ?_
  refine x_tcallVi (pc := 8) (n := 5) K hE (by decide) (c_X0_paintBlock l D cI cJ cZ cA hst V p1 p2 p3 p4 p5 land there near worn trial fits ways _ _ h) rfl rfl gL_paintBlock_X0_paintBlock rfl (by decide +kernel) ⟨Nat.le_of_ble_eq_true rfl, Nat.le_of_ble_eq_true rfl⟩ rfl (av := [.int p1, .int p2, .int p3, .int p4, .int p5]) (b := V 0) (ci := 0) (q0 := 0) rfl rfl rfl (Nat.le_of_ble_eq_true rfl) [0, 1, 2, 3, 4, 5, 6] [7, 8, 9, 10, 11, 12, 13, 14, 15, 16, 17] (wr := (wJ cI cA (V 7) (fun k => V (k + 8)) joined)) rfl rfl rfl rfl (by decide) dL_paintBlock_8 ⟨Nat.le_of_ble_eq_true rfl, Nat.le_of_ble_eq_true rfl⟩ (fun E hT => ?_) (fun r u9 h => ?_)
  · rcases hT with ⟨rfl, hp⟩ | ⟨rfl, hp⟩
    · refine x_catch K hE ht [] (0, 11, 12, 16) [(0, 11, 17, 19)] rfl (fun z hz => absurd hz List.not_mem_nil) (by decide) (by decide) kL_paintBlock_0 (by decide) (fun q => ?_)
      refine x_astore (lv' := [(0, .ref (V 0)), (1, .int p1), (2, .int p2), (3, .int p3), (4, .int p4), (5, .int p5), (6, .ref q)]) (pc := 12) K dL_paintBlock_12 (by decide) rfl ?_
      refine x_ldc (pc := 14) (v := (-1000001)) K kL_paintBlock_1 dL_paintBlock_14 ?_
      refine x_wsub (ws' := (wX0J cI cJ cZ cA V land there near worn trial fits ways joined)) [11, 12, 13, 14, 15, 16, 17, 0, 1, 2, 3, 4, 5, 6, 7, 8, 9, 10] rfl rfl ?_
      exact hX (-1000001) (land, there, near) _ _ hp dL_paintBlock_16
    · refine x_catch K hE ht [(0, 11, 12, 16)] (0, 11, 17, 19) [] rfl (fun z hz => by obtain rfl := List.mem_singleton.mp hz; exact ⟨by decide, "java/lang/IndexOutOfBoundsException", kL_paintBlock_0, by decide⟩) (by decide) (by decide) kL_paintBlock_2 (by decide) (fun q => ?_)
      refine x_astore (lv' := [(0, .ref (V 0)), (1, .int p1), (2, .int p2), (3, .int p3), (4, .int p4), (5, .int p5), (6, .ref q)]) (pc := 17) K dL_paintBlock_17 (by decide) rfl ?_
      refine x_ldc (pc := 19) (v := (-1000002)) K kL_paintBlock_3 dL_paintBlock_19 ?_
      refine x_wsub (ws' := (wX0J cI cJ cZ cA V land there near worn trial fits ways joined)) [11, 12, 13, 14, 15, 16, 17, 0, 1, 2, 3, 4, 5, 6, 7, 8, 9, 10] rfl rfl ?_
      exact hX (-1000002) (land, there, near) _ _ hp dL_paintBlock_21
  · obtain ⟨o0, o1, o2⟩ := u9
    refine x_wsub (ws' := (wX0J cI cJ cZ cA V o0 o1 o2 worn trial fits ways joined)) [11, 12, 13, 14, 15, 16, 17, 0, 1, 2, 3, 4, 5, 6, 7, 8, 9, 10] rfl rfl ?_
    exact hX r (o0, o1, o2) _ _ h dL_paintBlock_11
def q_L_countryAt (p1 : Int32) (p2 : Int32) (land : Nat → Int64) (P : Int32 → Prop) : Prop := q_X0_countryAt p1 p2 land (fun (r : Int32) => P r) (fun E => (E = "java/lang/IndexOutOfBoundsException" ∧ P (-1000001 : Int32)))
def q0_L_countryAt (p1 : Int32) (p2 : Int32) (land : Nat → Int64) (P : Int32 → Prop) : Prop := q_X0_countryAt p1 p2 land (fun (r : Int32) => P r) (fun _ => False)
abbrev rm_L_countryAt : Room := { frames := 10, cells := 1, slots := 6, locals := 200 }
abbrev rm0_L_countryAt : Room := { frames := 10, cells := 0, slots := 0, locals := 200 }
theorem kL_countryAt_0 : Cond.classLink RL 16 "java/lang/IndexOutOfBoundsException" ∈ wsL_countryAt := by decide +kernel
theorem kL_countryAt_1 : Cond.constant RL 18 (-1000001) ∈ wsL_countryAt := by decide +kernel
set_option maxHeartbeats 4000000 in
set_option maxRecDepth 100000 in
theorem c_L_countryAt (l : Launch) (D : va_G) (cI cJ cZ cA : ClassId) (hst : l.stackTraces = false) (V : Nat → Nat) (p1 : Int32) (p2 : Int32) (land : Nat → Int64) (there : Int32) (near : Nat → Int32) (worn : Nat → Int32) (trial : Nat → Int32) (fits : Nat → Int32) (ways : Nat → Int64) (joined : Nat → Nat → Int32) (P : Int32 → Prop) (h : q_L_countryAt p1 p2 land P) : xHi l yL_countryAt wsL_countryAt rm_L_countryAt D vwCl (xtys cI cJ cZ cA) (wX0J cI cJ cZ cA V land there near worn trial fits ways joined) [.ref (V 0), .int p1, .int p2] RX0 [(180, "there is no such row or column")] (σ := Unit) (fun _ => (wX0J cI cJ cZ cA V land there near worn trial fits ways joined)) (fun r _ => P r) 1 6 := by
  refine xHi_of (cc := cL_countryAt) (maxL := 4) (hh := [(0, 6, 7, 16)]) (by decide) rfl (Nat.le_of_ble_eq_true rfl) ?_
  intro X K hE ht hX
  have K : xk X l rm_L_countryAt D vwCl (xtys cI cJ cZ cA) cL_countryAt RL wsL_countryAt 4 := K
  unfold q_L_countryAt at h
  refine x_aload_n (pc := 0) K dL_countryAt_0 0 rfl rfl ?_
  refine x_iload_n (pc := 1) K dL_countryAt_1 1 rfl rfl ?_
  refine x_iload_n (pc := 2) K dL_countryAt_2 2 rfl rfl ?_
  refine x_tcallVi (pc := 3) (n := 2) K hE (by decide) (c_X0_countryAt l D cI cJ cZ cA hst V p1 p2 land there near worn trial fits ways _ _ h) rfl rfl gL_countryAt_X0_countryAt rfl (by decide +kernel) ⟨Nat.le_of_ble_eq_true rfl, Nat.le_of_ble_eq_true rfl⟩ rfl (av := [.int p1, .int p2]) (b := V 0) (ci := 0) (q0 := 0) rfl rfl rfl (Nat.le_of_ble_eq_true rfl) [0, 1, 2, 3, 4, 5, 6] [7, 8, 9, 10, 11, 12, 13, 14, 15, 16, 17] (wr := (wJ cI cA (V 7) (fun k => V (k + 8)) joined)) rfl rfl rfl rfl (by decide) dL_countryAt_3 ⟨Nat.le_of_ble_eq_true rfl, Nat.le_of_ble_eq_true rfl⟩ (fun E hT => ?_) (fun r u9 h => ?_)
  · obtain ⟨rfl, hp⟩ := hT
    refine x_catch K hE ht [] (0, 6, 7, 16) [] rfl (fun z hz => absurd hz List.not_mem_nil) (by decide) (by decide) kL_countryAt_0 (by decide) (fun q => ?_)
    refine x_astore_n (lv' := [(0, .ref (V 0)), (1, .int p1), (2, .int p2), (3, .ref q)]) (pc := 7) K dL_countryAt_7 rfl (by decide) rfl ?_
    refine x_ldc (pc := 8) (v := (-1000001)) K kL_countryAt_1 dL_countryAt_8 ?_
    refine x_wsub (ws' := (wX0J cI cJ cZ cA V land there near worn trial fits ways joined)) [11, 12, 13, 14, 15, 16, 17, 0, 1, 2, 3, 4, 5, 6, 7, 8, 9, 10] rfl rfl ?_
    exact hX (-1000001) () _ _ hp dL_countryAt_10
  · refine x_wsub (ws' := (wX0J cI cJ cZ cA V land there near worn trial fits ways joined)) [11, 12, 13, 14, 15, 16, 17, 0, 1, 2, 3, 4, 5, 6, 7, 8, 9, 10] rfl rfl ?_
    exact hX r () _ _ h dL_countryAt_6
set_option maxHeartbeats 4000000 in
set_option maxRecDepth 100000 in
theorem c0_L_countryAt (l : Launch) (D : va_G) (cI cJ cZ cA : ClassId) (V : Nat → Nat) (p1 : Int32) (p2 : Int32) (land : Nat → Int64) (there : Int32) (near : Nat → Int32) (worn : Nat → Int32) (trial : Nat → Int32) (fits : Nat → Int32) (ways : Nat → Int64) (joined : Nat → Nat → Int32) (P : Int32 → Prop) (h : q0_L_countryAt p1 p2 land P) : xMi l yL_countryAt wsL_countryAt rm0_L_countryAt D vwCl (xtys cI cJ cZ cA) (wX0J cI cJ cZ cA V land there near worn trial fits ways joined) [.ref (V 0), .int p1, .int p2] (σ := Unit) (fun _ => (wX0J cI cJ cZ cA V land there near worn trial fits ways joined)) (fun r _ => P r) := by
  refine xMiW_of (cc := cL_countryAt) (maxL := 4) (hh := [(0, 6, 7, 16)]) (by decide) rfl (Nat.le_of_ble_eq_true rfl) ?_
  intro X K hX
  have K : xk X l rm0_L_countryAt D vwCl (xtys cI cJ cZ cA) cL_countryAt RL wsL_countryAt 4 := K
  unfold q0_L_countryAt at h
  refine x_aload_n (pc := 0) K dL_countryAt_0 0 rfl rfl ?_
  refine x_iload_n (pc := 1) K dL_countryAt_1 1 rfl rfl ?_
  refine x_iload_n (pc := 2) K dL_countryAt_2 2 rfl rfl ?_
  refine x_callVi (pc := 3) (n := 2) K (c0_X0_countryAt l D cI cJ cZ cA V p1 p2 land there near worn trial fits ways _ h) rfl rfl gL_countryAt_X0_countryAt rfl (by decide +kernel) ⟨Nat.le_of_ble_eq_true rfl, Nat.le_of_ble_eq_true rfl⟩ rfl (av := [.int p1, .int p2]) (b := V 0) (ci := 0) (q0 := 0) rfl rfl rfl (Nat.le_of_ble_eq_true rfl) [0, 1, 2, 3, 4, 5, 6] [7, 8, 9, 10, 11, 12, 13, 14, 15, 16, 17] (wr := (wJ cI cA (V 7) (fun k => V (k + 8)) joined)) rfl rfl rfl rfl (by decide) dL_countryAt_3 ⟨Nat.le_of_ble_eq_true rfl, Nat.le_of_ble_eq_true rfl⟩ (fun r u9 h => ?_)
  refine x_wsub (ws' := (wX0J cI cJ cZ cA V land there near worn trial fits ways joined)) [11, 12, 13, 14, 15, 16, 17, 0, 1, 2, 3, 4, 5, 6, 7, 8, 9, 10] rfl rfl ?_
  exact hX r () _ _ h dL_countryAt_6
def q_L_area (p1 : Int32) (land : Nat → Int64) (P : Int32 → Prop) : Prop := q_X0_area p1 land (fun (r : Int32) => P r) (fun E => (E = "java/lang/IndexOutOfBoundsException" ∧ P (-1000001 : Int32)))
def q0_L_area (p1 : Int32) (land : Nat → Int64) (P : Int32 → Prop) : Prop := q_X0_area p1 land (fun (r : Int32) => P r) (fun _ => False)
abbrev rm_L_area : Room := { frames := 10, cells := 1, slots := 6, locals := 200 }
abbrev rm0_L_area : Room := { frames := 10, cells := 0, slots := 0, locals := 200 }
theorem kL_area_0 : Cond.classLink RL 16 "java/lang/IndexOutOfBoundsException" ∈ wsL_area := by decide +kernel
theorem kL_area_1 : Cond.constant RL 18 (-1000001) ∈ wsL_area := by decide +kernel
set_option maxHeartbeats 4000000 in
set_option maxRecDepth 100000 in
theorem c_L_area (l : Launch) (D : va_G) (cI cJ cZ cA : ClassId) (hst : l.stackTraces = false) (V : Nat → Nat) (p1 : Int32) (land : Nat → Int64) (there : Int32) (near : Nat → Int32) (worn : Nat → Int32) (trial : Nat → Int32) (fits : Nat → Int32) (ways : Nat → Int64) (joined : Nat → Nat → Int32) (P : Int32 → Prop) (h : q_L_area p1 land P) : xHi l yL_area wsL_area rm_L_area D vwCl (xtys cI cJ cZ cA) (wX0J cI cJ cZ cA V land there near worn trial fits ways joined) [.ref (V 0), .int p1] RX0 [(183, "there is no such country")] (σ := Unit) (fun _ => (wX0J cI cJ cZ cA V land there near worn trial fits ways joined)) (fun r _ => P r) 1 6 := by
  refine xHi_of (cc := cL_area) (maxL := 3) (hh := [(0, 5, 6, 16)]) (by decide) rfl (Nat.le_of_ble_eq_true rfl) ?_
  intro X K hE ht hX
  have K : xk X l rm_L_area D vwCl (xtys cI cJ cZ cA) cL_area RL wsL_area 3 := K
  unfold q_L_area at h
  refine x_aload_n (pc := 0) K dL_area_0 0 rfl rfl ?_
  refine x_iload_n (pc := 1) K dL_area_1 1 rfl rfl ?_
  refine x_tcallVi (pc := 2) (n := 1) K hE (by decide) (c_X0_area l D cI cJ cZ cA hst V p1 land there near worn trial fits ways _ _ h) rfl rfl gL_area_X0_area rfl (by decide +kernel) ⟨Nat.le_of_ble_eq_true rfl, Nat.le_of_ble_eq_true rfl⟩ rfl (av := [.int p1]) (b := V 0) (ci := 0) (q0 := 0) rfl rfl rfl (Nat.le_of_ble_eq_true rfl) [0, 1, 2, 3, 4, 5, 6] [7, 8, 9, 10, 11, 12, 13, 14, 15, 16, 17] (wr := (wJ cI cA (V 7) (fun k => V (k + 8)) joined)) rfl rfl rfl rfl (by decide) dL_area_2 ⟨Nat.le_of_ble_eq_true rfl, Nat.le_of_ble_eq_true rfl⟩ (fun E hT => ?_) (fun r u9 h => ?_)
  · obtain ⟨rfl, hp⟩ := hT
    refine x_catch K hE ht [] (0, 5, 6, 16) [] rfl (fun z hz => absurd hz List.not_mem_nil) (by decide) (by decide) kL_area_0 (by decide) (fun q => ?_)
    refine x_astore_n (lv' := [(0, .ref (V 0)), (1, .int p1), (2, .ref q)]) (pc := 6) K dL_area_6 rfl (by decide) rfl ?_
    refine x_ldc (pc := 7) (v := (-1000001)) K kL_area_1 dL_area_7 ?_
    refine x_wsub (ws' := (wX0J cI cJ cZ cA V land there near worn trial fits ways joined)) [11, 12, 13, 14, 15, 16, 17, 0, 1, 2, 3, 4, 5, 6, 7, 8, 9, 10] rfl rfl ?_
    exact hX (-1000001) () _ _ hp dL_area_9
  · refine x_wsub (ws' := (wX0J cI cJ cZ cA V land there near worn trial fits ways joined)) [11, 12, 13, 14, 15, 16, 17, 0, 1, 2, 3, 4, 5, 6, 7, 8, 9, 10] rfl rfl ?_
    exact hX r () _ _ h dL_area_5
set_option maxHeartbeats 4000000 in
set_option maxRecDepth 100000 in
theorem c0_L_area (l : Launch) (D : va_G) (cI cJ cZ cA : ClassId) (V : Nat → Nat) (p1 : Int32) (land : Nat → Int64) (there : Int32) (near : Nat → Int32) (worn : Nat → Int32) (trial : Nat → Int32) (fits : Nat → Int32) (ways : Nat → Int64) (joined : Nat → Nat → Int32) (P : Int32 → Prop) (h : q0_L_area p1 land P) : xMi l yL_area wsL_area rm0_L_area D vwCl (xtys cI cJ cZ cA) (wX0J cI cJ cZ cA V land there near worn trial fits ways joined) [.ref (V 0), .int p1] (σ := Unit) (fun _ => (wX0J cI cJ cZ cA V land there near worn trial fits ways joined)) (fun r _ => P r) := by
  refine xMiW_of (cc := cL_area) (maxL := 3) (hh := [(0, 5, 6, 16)]) (by decide) rfl (Nat.le_of_ble_eq_true rfl) ?_
  intro X K hX
  have K : xk X l rm0_L_area D vwCl (xtys cI cJ cZ cA) cL_area RL wsL_area 3 := K
  unfold q0_L_area at h
  refine x_aload_n (pc := 0) K dL_area_0 0 rfl rfl ?_
  refine x_iload_n (pc := 1) K dL_area_1 1 rfl rfl ?_
  refine x_callVi (pc := 2) (n := 1) K (c0_X0_area l D cI cJ cZ cA V p1 land there near worn trial fits ways _ h) rfl rfl gL_area_X0_area rfl (by decide +kernel) ⟨Nat.le_of_ble_eq_true rfl, Nat.le_of_ble_eq_true rfl⟩ rfl (av := [.int p1]) (b := V 0) (ci := 0) (q0 := 0) rfl rfl rfl (Nat.le_of_ble_eq_true rfl) [0, 1, 2, 3, 4, 5, 6] [7, 8, 9, 10, 11, 12, 13, 14, 15, 16, 17] (wr := (wJ cI cA (V 7) (fun k => V (k + 8)) joined)) rfl rfl rfl rfl (by decide) dL_area_2 ⟨Nat.le_of_ble_eq_true rfl, Nat.le_of_ble_eq_true rfl⟩ (fun r u9 h => ?_)
  refine x_wsub (ws' := (wX0J cI cJ cZ cA V land there near worn trial fits ways joined)) [11, 12, 13, 14, 15, 16, 17, 0, 1, 2, 3, 4, 5, 6, 7, 8, 9, 10] rfl rfl ?_
  exact hX r () _ _ h dL_area_5
def q_L_pieces (p1 : Int32) (land : Nat → Int64) (P : Int32 → Prop) : Prop := q_X0_pieces p1 land (fun (r : Int32) => P r) (fun E => (E = "java/lang/IndexOutOfBoundsException" ∧ P (-1000001 : Int32)))
def q0_L_pieces (p1 : Int32) (land : Nat → Int64) (P : Int32 → Prop) : Prop := q_X0_pieces p1 land (fun (r : Int32) => P r) (fun _ => False)
abbrev rm_L_pieces : Room := { frames := 14, cells := 1, slots := 6, locals := 360 }
abbrev rm0_L_pieces : Room := { frames := 14, cells := 0, slots := 0, locals := 360 }
theorem kL_pieces_0 : Cond.classLink RL 16 "java/lang/IndexOutOfBoundsException" ∈ wsL_pieces := by decide +kernel
theorem kL_pieces_1 : Cond.constant RL 18 (-1000001) ∈ wsL_pieces := by decide +kernel
set_option maxHeartbeats 4000000 in
set_option maxRecDepth 100000 in
theorem c_L_pieces (l : Launch) (D : va_G) (cI cJ cZ cA : ClassId) (hst : l.stackTraces = false) (V : Nat → Nat) (p1 : Int32) (land : Nat → Int64) (there : Int32) (near : Nat → Int32) (worn : Nat → Int32) (trial : Nat → Int32) (fits : Nat → Int32) (ways : Nat → Int64) (joined : Nat → Nat → Int32) (P : Int32 → Prop) (h : q_L_pieces p1 land P) : xHi l yL_pieces wsL_pieces rm_L_pieces D vwCl (xtys cI cJ cZ cA) (wX0J cI cJ cZ cA V land there near worn trial fits ways joined) [.ref (V 0), .int p1] RX0 [(183, "there is no such country")] (σ := Unit) (fun _ => (wX0J cI cJ cZ cA V land there near worn trial fits ways joined)) (fun r _ => P r) 1 6 := by
  refine xHi_of (cc := cL_pieces) (maxL := 3) (hh := [(0, 5, 6, 16)]) (by decide) rfl (Nat.le_of_ble_eq_true rfl) ?_
  intro X K hE ht hX
  have K : xk X l rm_L_pieces D vwCl (xtys cI cJ cZ cA) cL_pieces RL wsL_pieces 3 := K
  unfold q_L_pieces at h
  refine x_aload_n (pc := 0) K dL_pieces_0 0 rfl rfl ?_
  refine x_iload_n (pc := 1) K dL_pieces_1 1 rfl rfl ?_
  refine x_tcallVi (pc := 2) (n := 1) K hE (by decide) (c_X0_pieces l D cI cJ cZ cA hst V p1 land there near worn trial fits ways _ _ h) rfl rfl gL_pieces_X0_pieces rfl (by decide +kernel) ⟨Nat.le_of_ble_eq_true rfl, Nat.le_of_ble_eq_true rfl⟩ rfl (av := [.int p1]) (b := V 0) (ci := 0) (q0 := 0) rfl rfl rfl (Nat.le_of_ble_eq_true rfl) [0, 1, 2, 3, 4, 5, 6] [7, 8, 9, 10, 11, 12, 13, 14, 15, 16, 17] (wr := (wJ cI cA (V 7) (fun k => V (k + 8)) joined)) rfl rfl rfl rfl (by decide) dL_pieces_2 ⟨Nat.le_of_ble_eq_true rfl, Nat.le_of_ble_eq_true rfl⟩ (fun E hT => ?_) (fun r u9 h => ?_)
  · obtain ⟨rfl, hp⟩ := hT
    refine x_catch K hE ht [] (0, 5, 6, 16) [] rfl (fun z hz => absurd hz List.not_mem_nil) (by decide) (by decide) kL_pieces_0 (by decide) (fun q => ?_)
    refine x_astore_n (lv' := [(0, .ref (V 0)), (1, .int p1), (2, .ref q)]) (pc := 6) K dL_pieces_6 rfl (by decide) rfl ?_
    refine x_ldc (pc := 7) (v := (-1000001)) K kL_pieces_1 dL_pieces_7 ?_
    refine x_wsub (ws' := (wX0J cI cJ cZ cA V land there near worn trial fits ways joined)) [11, 12, 13, 14, 15, 16, 17, 0, 1, 2, 3, 4, 5, 6, 7, 8, 9, 10] rfl rfl ?_
    exact hX (-1000001) () _ _ hp dL_pieces_9
  · refine x_wsub (ws' := (wX0J cI cJ cZ cA V land there near worn trial fits ways joined)) [11, 12, 13, 14, 15, 16, 17, 0, 1, 2, 3, 4, 5, 6, 7, 8, 9, 10] rfl rfl ?_
    exact hX r () _ _ h dL_pieces_5
set_option maxHeartbeats 4000000 in
set_option maxRecDepth 100000 in
theorem c0_L_pieces (l : Launch) (D : va_G) (cI cJ cZ cA : ClassId) (V : Nat → Nat) (p1 : Int32) (land : Nat → Int64) (there : Int32) (near : Nat → Int32) (worn : Nat → Int32) (trial : Nat → Int32) (fits : Nat → Int32) (ways : Nat → Int64) (joined : Nat → Nat → Int32) (P : Int32 → Prop) (h : q0_L_pieces p1 land P) : xMi l yL_pieces wsL_pieces rm0_L_pieces D vwCl (xtys cI cJ cZ cA) (wX0J cI cJ cZ cA V land there near worn trial fits ways joined) [.ref (V 0), .int p1] (σ := Unit) (fun _ => (wX0J cI cJ cZ cA V land there near worn trial fits ways joined)) (fun r _ => P r) := by
  refine xMiW_of (cc := cL_pieces) (maxL := 3) (hh := [(0, 5, 6, 16)]) (by decide) rfl (Nat.le_of_ble_eq_true rfl) ?_
  intro X K hX
  have K : xk X l rm0_L_pieces D vwCl (xtys cI cJ cZ cA) cL_pieces RL wsL_pieces 3 := K
  unfold q0_L_pieces at h
  refine x_aload_n (pc := 0) K dL_pieces_0 0 rfl rfl ?_
  refine x_iload_n (pc := 1) K dL_pieces_1 1 rfl rfl ?_
  refine x_callVi (pc := 2) (n := 1) K (c0_X0_pieces l D cI cJ cZ cA V p1 land there near worn trial fits ways _ h) rfl rfl gL_pieces_X0_pieces rfl (by decide +kernel) ⟨Nat.le_of_ble_eq_true rfl, Nat.le_of_ble_eq_true rfl⟩ rfl (av := [.int p1]) (b := V 0) (ci := 0) (q0 := 0) rfl rfl rfl (Nat.le_of_ble_eq_true rfl) [0, 1, 2, 3, 4, 5, 6] [7, 8, 9, 10, 11, 12, 13, 14, 15, 16, 17] (wr := (wJ cI cA (V 7) (fun k => V (k + 8)) joined)) rfl rfl rfl rfl (by decide) dL_pieces_2 ⟨Nat.le_of_ble_eq_true rfl, Nat.le_of_ble_eq_true rfl⟩ (fun r u9 h => ?_)
  refine x_wsub (ws' := (wX0J cI cJ cZ cA V land there near worn trial fits ways joined)) [11, 12, 13, 14, 15, 16, 17, 0, 1, 2, 3, 4, 5, 6, 7, 8, 9, 10] rfl rfl ?_
  exact hX r () _ _ h dL_pieces_5
def q_L_largestPiece (p1 : Int32) (land : Nat → Int64) (P : Int32 → Prop) : Prop := q_X0_largestPiece p1 land (fun (r : Int32) => P r) (fun E => (E = "java/lang/IndexOutOfBoundsException" ∧ P (-1000001 : Int32)))
def q0_L_largestPiece (p1 : Int32) (land : Nat → Int64) (P : Int32 → Prop) : Prop := q_X0_largestPiece p1 land (fun (r : Int32) => P r) (fun _ => False)
abbrev rm_L_largestPiece : Room := { frames := 13, cells := 1, slots := 6, locals := 320 }
abbrev rm0_L_largestPiece : Room := { frames := 13, cells := 0, slots := 0, locals := 320 }
theorem kL_largestPiece_0 : Cond.classLink RL 16 "java/lang/IndexOutOfBoundsException" ∈ wsL_largestPiece := by decide +kernel
theorem kL_largestPiece_1 : Cond.constant RL 18 (-1000001) ∈ wsL_largestPiece := by decide +kernel
set_option maxHeartbeats 4000000 in
set_option maxRecDepth 100000 in
theorem c_L_largestPiece (l : Launch) (D : va_G) (cI cJ cZ cA : ClassId) (hst : l.stackTraces = false) (V : Nat → Nat) (p1 : Int32) (land : Nat → Int64) (there : Int32) (near : Nat → Int32) (worn : Nat → Int32) (trial : Nat → Int32) (fits : Nat → Int32) (ways : Nat → Int64) (joined : Nat → Nat → Int32) (P : Int32 → Prop) (h : q_L_largestPiece p1 land P) : xHi l yL_largestPiece wsL_largestPiece rm_L_largestPiece D vwCl (xtys cI cJ cZ cA) (wX0J cI cJ cZ cA V land there near worn trial fits ways joined) [.ref (V 0), .int p1] RX0 [(183, "there is no such country")] (σ := Unit) (fun _ => (wX0J cI cJ cZ cA V land there near worn trial fits ways joined)) (fun r _ => P r) 1 6 := by
  refine xHi_of (cc := cL_largestPiece) (maxL := 3) (hh := [(0, 5, 6, 16)]) (by decide) rfl (Nat.le_of_ble_eq_true rfl) ?_
  intro X K hE ht hX
  have K : xk X l rm_L_largestPiece D vwCl (xtys cI cJ cZ cA) cL_largestPiece RL wsL_largestPiece 3 := K
  unfold q_L_largestPiece at h
  refine x_aload_n (pc := 0) K dL_largestPiece_0 0 rfl rfl ?_
  refine x_iload_n (pc := 1) K dL_largestPiece_1 1 rfl rfl ?_
  refine x_tcallVi (pc := 2) (n := 1) K hE (by decide) (c_X0_largestPiece l D cI cJ cZ cA hst V p1 land there near worn trial fits ways _ _ h) rfl rfl gL_largestPiece_X0_largestPiece rfl (by decide +kernel) ⟨Nat.le_of_ble_eq_true rfl, Nat.le_of_ble_eq_true rfl⟩ rfl (av := [.int p1]) (b := V 0) (ci := 0) (q0 := 0) rfl rfl rfl (Nat.le_of_ble_eq_true rfl) [0, 1, 2, 3, 4, 5, 6] [7, 8, 9, 10, 11, 12, 13, 14, 15, 16, 17] (wr := (wJ cI cA (V 7) (fun k => V (k + 8)) joined)) rfl rfl rfl rfl (by decide) dL_largestPiece_2 ⟨Nat.le_of_ble_eq_true rfl, Nat.le_of_ble_eq_true rfl⟩ (fun E hT => ?_) (fun r u9 h => ?_)
  · obtain ⟨rfl, hp⟩ := hT
    refine x_catch K hE ht [] (0, 5, 6, 16) [] rfl (fun z hz => absurd hz List.not_mem_nil) (by decide) (by decide) kL_largestPiece_0 (by decide) (fun q => ?_)
    refine x_astore_n (lv' := [(0, .ref (V 0)), (1, .int p1), (2, .ref q)]) (pc := 6) K dL_largestPiece_6 rfl (by decide) rfl ?_
    refine x_ldc (pc := 7) (v := (-1000001)) K kL_largestPiece_1 dL_largestPiece_7 ?_
    refine x_wsub (ws' := (wX0J cI cJ cZ cA V land there near worn trial fits ways joined)) [11, 12, 13, 14, 15, 16, 17, 0, 1, 2, 3, 4, 5, 6, 7, 8, 9, 10] rfl rfl ?_
    exact hX (-1000001) () _ _ hp dL_largestPiece_9
  · refine x_wsub (ws' := (wX0J cI cJ cZ cA V land there near worn trial fits ways joined)) [11, 12, 13, 14, 15, 16, 17, 0, 1, 2, 3, 4, 5, 6, 7, 8, 9, 10] rfl rfl ?_
    exact hX r () _ _ h dL_largestPiece_5
set_option maxHeartbeats 4000000 in
set_option maxRecDepth 100000 in
theorem c0_L_largestPiece (l : Launch) (D : va_G) (cI cJ cZ cA : ClassId) (V : Nat → Nat) (p1 : Int32) (land : Nat → Int64) (there : Int32) (near : Nat → Int32) (worn : Nat → Int32) (trial : Nat → Int32) (fits : Nat → Int32) (ways : Nat → Int64) (joined : Nat → Nat → Int32) (P : Int32 → Prop) (h : q0_L_largestPiece p1 land P) : xMi l yL_largestPiece wsL_largestPiece rm0_L_largestPiece D vwCl (xtys cI cJ cZ cA) (wX0J cI cJ cZ cA V land there near worn trial fits ways joined) [.ref (V 0), .int p1] (σ := Unit) (fun _ => (wX0J cI cJ cZ cA V land there near worn trial fits ways joined)) (fun r _ => P r) := by
  refine xMiW_of (cc := cL_largestPiece) (maxL := 3) (hh := [(0, 5, 6, 16)]) (by decide) rfl (Nat.le_of_ble_eq_true rfl) ?_
  intro X K hX
  have K : xk X l rm0_L_largestPiece D vwCl (xtys cI cJ cZ cA) cL_largestPiece RL wsL_largestPiece 3 := K
  unfold q0_L_largestPiece at h
  refine x_aload_n (pc := 0) K dL_largestPiece_0 0 rfl rfl ?_
  refine x_iload_n (pc := 1) K dL_largestPiece_1 1 rfl rfl ?_
  refine x_callVi (pc := 2) (n := 1) K (c0_X0_largestPiece l D cI cJ cZ cA V p1 land there near worn trial fits ways _ h) rfl rfl gL_largestPiece_X0_largestPiece rfl (by decide +kernel) ⟨Nat.le_of_ble_eq_true rfl, Nat.le_of_ble_eq_true rfl⟩ rfl (av := [.int p1]) (b := V 0) (ci := 0) (q0 := 0) rfl rfl rfl (Nat.le_of_ble_eq_true rfl) [0, 1, 2, 3, 4, 5, 6] [7, 8, 9, 10, 11, 12, 13, 14, 15, 16, 17] (wr := (wJ cI cA (V 7) (fun k => V (k + 8)) joined)) rfl rfl rfl rfl (by decide) dL_largestPiece_2 ⟨Nat.le_of_ble_eq_true rfl, Nat.le_of_ble_eq_true rfl⟩ (fun r u9 h => ?_)
  refine x_wsub (ws' := (wX0J cI cJ cZ cA V land there near worn trial fits ways joined)) [11, 12, 13, 14, 15, 16, 17, 0, 1, 2, 3, 4, 5, 6, 7, 8, 9, 10] rfl rfl ?_
  exact hX r () _ _ h dL_largestPiece_5
def q_L_neighbours (p1 : Int32) (near : Nat → Int32) (P : Int32 → Prop) : Prop := q_X0_neighbours p1 near (fun (r : Int32) => P r) (fun E => (E = "java/lang/IndexOutOfBoundsException" ∧ P (-1000001 : Int32)))
def q0_L_neighbours (p1 : Int32) (near : Nat → Int32) (P : Int32 → Prop) : Prop := q_X0_neighbours p1 near (fun (r : Int32) => P r) (fun _ => False)
abbrev rm_L_neighbours : Room := { frames := 10, cells := 1, slots := 6, locals := 200 }
abbrev rm0_L_neighbours : Room := { frames := 10, cells := 0, slots := 0, locals := 200 }
theorem kL_neighbours_0 : Cond.classLink RL 16 "java/lang/IndexOutOfBoundsException" ∈ wsL_neighbours := by decide +kernel
theorem kL_neighbours_1 : Cond.constant RL 18 (-1000001) ∈ wsL_neighbours := by decide +kernel
set_option maxHeartbeats 4000000 in
set_option maxRecDepth 100000 in
theorem c_L_neighbours (l : Launch) (D : va_G) (cI cJ cZ cA : ClassId) (hst : l.stackTraces = false) (V : Nat → Nat) (p1 : Int32) (land : Nat → Int64) (there : Int32) (near : Nat → Int32) (worn : Nat → Int32) (trial : Nat → Int32) (fits : Nat → Int32) (ways : Nat → Int64) (joined : Nat → Nat → Int32) (P : Int32 → Prop) (h : q_L_neighbours p1 near P) : xHi l yL_neighbours wsL_neighbours rm_L_neighbours D vwCl (xtys cI cJ cZ cA) (wX0J cI cJ cZ cA V land there near worn trial fits ways joined) [.ref (V 0), .int p1] RX0 [(183, "there is no such country")] (σ := Unit) (fun _ => (wX0J cI cJ cZ cA V land there near worn trial fits ways joined)) (fun r _ => P r) 1 6 := by
  refine xHi_of (cc := cL_neighbours) (maxL := 3) (hh := [(0, 5, 6, 16)]) (by decide) rfl (Nat.le_of_ble_eq_true rfl) ?_
  intro X K hE ht hX
  have K : xk X l rm_L_neighbours D vwCl (xtys cI cJ cZ cA) cL_neighbours RL wsL_neighbours 3 := K
  unfold q_L_neighbours at h
  refine x_aload_n (pc := 0) K dL_neighbours_0 0 rfl rfl ?_
  refine x_iload_n (pc := 1) K dL_neighbours_1 1 rfl rfl ?_
  refine x_tcallVi (pc := 2) (n := 1) K hE (by decide) (c_X0_neighbours l D cI cJ cZ cA hst V p1 land there near worn trial fits ways _ _ h) rfl rfl gL_neighbours_X0_neighbours rfl (by decide +kernel) ⟨Nat.le_of_ble_eq_true rfl, Nat.le_of_ble_eq_true rfl⟩ rfl (av := [.int p1]) (b := V 0) (ci := 0) (q0 := 0) rfl rfl rfl (Nat.le_of_ble_eq_true rfl) [0, 1, 2, 3, 4, 5, 6] [7, 8, 9, 10, 11, 12, 13, 14, 15, 16, 17] (wr := (wJ cI cA (V 7) (fun k => V (k + 8)) joined)) rfl rfl rfl rfl (by decide) dL_neighbours_2 ⟨Nat.le_of_ble_eq_true rfl, Nat.le_of_ble_eq_true rfl⟩ (fun E hT => ?_) (fun r u9 h => ?_)
  · obtain ⟨rfl, hp⟩ := hT
    refine x_catch K hE ht [] (0, 5, 6, 16) [] rfl (fun z hz => absurd hz List.not_mem_nil) (by decide) (by decide) kL_neighbours_0 (by decide) (fun q => ?_)
    refine x_astore_n (lv' := [(0, .ref (V 0)), (1, .int p1), (2, .ref q)]) (pc := 6) K dL_neighbours_6 rfl (by decide) rfl ?_
    refine x_ldc (pc := 7) (v := (-1000001)) K kL_neighbours_1 dL_neighbours_7 ?_
    refine x_wsub (ws' := (wX0J cI cJ cZ cA V land there near worn trial fits ways joined)) [11, 12, 13, 14, 15, 16, 17, 0, 1, 2, 3, 4, 5, 6, 7, 8, 9, 10] rfl rfl ?_
    exact hX (-1000001) () _ _ hp dL_neighbours_9
  · refine x_wsub (ws' := (wX0J cI cJ cZ cA V land there near worn trial fits ways joined)) [11, 12, 13, 14, 15, 16, 17, 0, 1, 2, 3, 4, 5, 6, 7, 8, 9, 10] rfl rfl ?_
    exact hX r () _ _ h dL_neighbours_5
set_option maxHeartbeats 4000000 in
set_option maxRecDepth 100000 in
theorem c0_L_neighbours (l : Launch) (D : va_G) (cI cJ cZ cA : ClassId) (V : Nat → Nat) (p1 : Int32) (land : Nat → Int64) (there : Int32) (near : Nat → Int32) (worn : Nat → Int32) (trial : Nat → Int32) (fits : Nat → Int32) (ways : Nat → Int64) (joined : Nat → Nat → Int32) (P : Int32 → Prop) (h : q0_L_neighbours p1 near P) : xMi l yL_neighbours wsL_neighbours rm0_L_neighbours D vwCl (xtys cI cJ cZ cA) (wX0J cI cJ cZ cA V land there near worn trial fits ways joined) [.ref (V 0), .int p1] (σ := Unit) (fun _ => (wX0J cI cJ cZ cA V land there near worn trial fits ways joined)) (fun r _ => P r) := by
  refine xMiW_of (cc := cL_neighbours) (maxL := 3) (hh := [(0, 5, 6, 16)]) (by decide) rfl (Nat.le_of_ble_eq_true rfl) ?_
  intro X K hX
  have K : xk X l rm0_L_neighbours D vwCl (xtys cI cJ cZ cA) cL_neighbours RL wsL_neighbours 3 := K
  unfold q0_L_neighbours at h
  refine x_aload_n (pc := 0) K dL_neighbours_0 0 rfl rfl ?_
  refine x_iload_n (pc := 1) K dL_neighbours_1 1 rfl rfl ?_
  refine x_callVi (pc := 2) (n := 1) K (c0_X0_neighbours l D cI cJ cZ cA V p1 land there near worn trial fits ways _ h) rfl rfl gL_neighbours_X0_neighbours rfl (by decide +kernel) ⟨Nat.le_of_ble_eq_true rfl, Nat.le_of_ble_eq_true rfl⟩ rfl (av := [.int p1]) (b := V 0) (ci := 0) (q0 := 0) rfl rfl rfl (Nat.le_of_ble_eq_true rfl) [0, 1, 2, 3, 4, 5, 6] [7, 8, 9, 10, 11, 12, 13, 14, 15, 16, 17] (wr := (wJ cI cA (V 7) (fun k => V (k + 8)) joined)) rfl rfl rfl rfl (by decide) dL_neighbours_2 ⟨Nat.le_of_ble_eq_true rfl, Nat.le_of_ble_eq_true rfl⟩ (fun r u9 h => ?_)
  refine x_wsub (ws' := (wX0J cI cJ cZ cA V land there near worn trial fits ways joined)) [11, 12, 13, 14, 15, 16, 17, 0, 1, 2, 3, 4, 5, 6, 7, 8, 9, 10] rfl rfl ?_
  exact hX r () _ _ h dL_neighbours_5
def q_L_border (p1 : Int32) (p2 : Int32) (land : Nat → Int64) (P : Int32 → Prop) : Prop := q_X0_border p1 p2 land (fun (r : Int32) => P r) (fun E => (E = "java/lang/IndexOutOfBoundsException" ∧ P (-1000001 : Int32)))
def q0_L_border (p1 : Int32) (p2 : Int32) (land : Nat → Int64) (P : Int32 → Prop) : Prop := q_X0_border p1 p2 land (fun (r : Int32) => P r) (fun _ => False)
abbrev rm_L_border : Room := { frames := 10, cells := 2, slots := 12, locals := 200 }
abbrev rm0_L_border : Room := { frames := 10, cells := 0, slots := 0, locals := 200 }
theorem kL_border_0 : Cond.classLink RL 16 "java/lang/IndexOutOfBoundsException" ∈ wsL_border := by decide +kernel
theorem kL_border_1 : Cond.constant RL 18 (-1000001) ∈ wsL_border := by decide +kernel
set_option maxHeartbeats 4000000 in
set_option maxRecDepth 100000 in
theorem c_L_border (l : Launch) (D : va_G) (cI cJ cZ cA : ClassId) (hst : l.stackTraces = false) (V : Nat → Nat) (p1 : Int32) (p2 : Int32) (land : Nat → Int64) (there : Int32) (near : Nat → Int32) (worn : Nat → Int32) (trial : Nat → Int32) (fits : Nat → Int32) (ways : Nat → Int64) (joined : Nat → Nat → Int32) (P : Int32 → Prop) (h : q_L_border p1 p2 land P) : xHi l yL_border wsL_border rm_L_border D vwCl (xtys cI cJ cZ cA) (wX0J cI cJ cZ cA V land there near worn trial fits ways joined) [.ref (V 0), .int p1, .int p2] RX0 [(183, "there is no such country")] (σ := Unit) (fun _ => (wX0J cI cJ cZ cA V land there near worn trial fits ways joined)) (fun r _ => P r) 2 12 := by
  refine xHi_of (cc := cL_border) (maxL := 4) (hh := [(0, 6, 7, 16)]) (by decide) rfl (Nat.le_of_ble_eq_true rfl) ?_
  intro X K hE ht hX
  have K : xk X l rm_L_border D vwCl (xtys cI cJ cZ cA) cL_border RL wsL_border 4 := K
  unfold q_L_border at h
  refine x_aload_n (pc := 0) K dL_border_0 0 rfl rfl ?_
  refine x_iload_n (pc := 1) K dL_border_1 1 rfl rfl ?_
  refine x_iload_n (pc := 2) K dL_border_2 2 rfl rfl ?_
  refine x_tcallVi (pc := 3) (n := 2) K hE (by decide) (c_X0_border l D cI cJ cZ cA hst V p1 p2 land there near worn trial fits ways _ _ h) rfl rfl gL_border_X0_border rfl (by decide +kernel) ⟨Nat.le_of_ble_eq_true rfl, Nat.le_of_ble_eq_true rfl⟩ rfl (av := [.int p1, .int p2]) (b := V 0) (ci := 0) (q0 := 0) rfl rfl rfl (Nat.le_of_ble_eq_true rfl) [0, 1, 2, 3, 4, 5, 6] [7, 8, 9, 10, 11, 12, 13, 14, 15, 16, 17] (wr := (wJ cI cA (V 7) (fun k => V (k + 8)) joined)) rfl rfl rfl rfl (by decide) dL_border_3 ⟨Nat.le_of_ble_eq_true rfl, Nat.le_of_ble_eq_true rfl⟩ (fun E hT => ?_) (fun r u9 h => ?_)
  · obtain ⟨rfl, hp⟩ := hT
    refine x_catch K hE ht [] (0, 6, 7, 16) [] rfl (fun z hz => absurd hz List.not_mem_nil) (by decide) (by decide) kL_border_0 (by decide) (fun q => ?_)
    refine x_astore_n (lv' := [(0, .ref (V 0)), (1, .int p1), (2, .int p2), (3, .ref q)]) (pc := 7) K dL_border_7 rfl (by decide) rfl ?_
    refine x_ldc (pc := 8) (v := (-1000001)) K kL_border_1 dL_border_8 ?_
    refine x_wsub (ws' := (wX0J cI cJ cZ cA V land there near worn trial fits ways joined)) [11, 12, 13, 14, 15, 16, 17, 0, 1, 2, 3, 4, 5, 6, 7, 8, 9, 10] rfl rfl ?_
    exact hX (-1000001) () _ _ hp dL_border_10
  · refine x_wsub (ws' := (wX0J cI cJ cZ cA V land there near worn trial fits ways joined)) [11, 12, 13, 14, 15, 16, 17, 0, 1, 2, 3, 4, 5, 6, 7, 8, 9, 10] rfl rfl ?_
    exact hX r () _ _ h dL_border_6
set_option maxHeartbeats 4000000 in
set_option maxRecDepth 100000 in
theorem c0_L_border (l : Launch) (D : va_G) (cI cJ cZ cA : ClassId) (V : Nat → Nat) (p1 : Int32) (p2 : Int32) (land : Nat → Int64) (there : Int32) (near : Nat → Int32) (worn : Nat → Int32) (trial : Nat → Int32) (fits : Nat → Int32) (ways : Nat → Int64) (joined : Nat → Nat → Int32) (P : Int32 → Prop) (h : q0_L_border p1 p2 land P) : xMi l yL_border wsL_border rm0_L_border D vwCl (xtys cI cJ cZ cA) (wX0J cI cJ cZ cA V land there near worn trial fits ways joined) [.ref (V 0), .int p1, .int p2] (σ := Unit) (fun _ => (wX0J cI cJ cZ cA V land there near worn trial fits ways joined)) (fun r _ => P r) := by
  refine xMiW_of (cc := cL_border) (maxL := 4) (hh := [(0, 6, 7, 16)]) (by decide) rfl (Nat.le_of_ble_eq_true rfl) ?_
  intro X K hX
  have K : xk X l rm0_L_border D vwCl (xtys cI cJ cZ cA) cL_border RL wsL_border 4 := K
  unfold q0_L_border at h
  refine x_aload_n (pc := 0) K dL_border_0 0 rfl rfl ?_
  refine x_iload_n (pc := 1) K dL_border_1 1 rfl rfl ?_
  refine x_iload_n (pc := 2) K dL_border_2 2 rfl rfl ?_
  refine x_callVi (pc := 3) (n := 2) K (c0_X0_border l D cI cJ cZ cA V p1 p2 land there near worn trial fits ways _ h) rfl rfl gL_border_X0_border rfl (by decide +kernel) ⟨Nat.le_of_ble_eq_true rfl, Nat.le_of_ble_eq_true rfl⟩ rfl (av := [.int p1, .int p2]) (b := V 0) (ci := 0) (q0 := 0) rfl rfl rfl (Nat.le_of_ble_eq_true rfl) [0, 1, 2, 3, 4, 5, 6] [7, 8, 9, 10, 11, 12, 13, 14, 15, 16, 17] (wr := (wJ cI cA (V 7) (fun k => V (k + 8)) joined)) rfl rfl rfl rfl (by decide) dL_border_3 ⟨Nat.le_of_ble_eq_true rfl, Nat.le_of_ble_eq_true rfl⟩ (fun r u9 h => ?_)
  refine x_wsub (ws' := (wX0J cI cJ cZ cA V land there near worn trial fits ways joined)) [11, 12, 13, 14, 15, 16, 17, 0, 1, 2, 3, 4, 5, 6, 7, 8, 9, 10] rfl rfl ?_
  exact hX r () _ _ h dL_border_6
def q_L_enclosed (p1 : Int32) (land : Nat → Int64) (P : Int32 → Prop) : Prop := q_X0_enclosed p1 land (fun (r : Int32) => P r) (fun E => (E = "java/lang/IndexOutOfBoundsException" ∧ P (-1000001 : Int32)))
def q0_L_enclosed (p1 : Int32) (land : Nat → Int64) (P : Int32 → Prop) : Prop := q_X0_enclosed p1 land (fun (r : Int32) => P r) (fun _ => False)
abbrev rm_L_enclosed : Room := { frames := 12, cells := 1, slots := 6, locals := 280 }
abbrev rm0_L_enclosed : Room := { frames := 12, cells := 0, slots := 0, locals := 280 }
theorem kL_enclosed_0 : Cond.classLink RL 16 "java/lang/IndexOutOfBoundsException" ∈ wsL_enclosed := by decide +kernel
theorem kL_enclosed_1 : Cond.constant RL 18 (-1000001) ∈ wsL_enclosed := by decide +kernel
set_option maxHeartbeats 4000000 in
set_option maxRecDepth 100000 in
theorem c_L_enclosed (l : Launch) (D : va_G) (cI cJ cZ cA : ClassId) (hst : l.stackTraces = false) (V : Nat → Nat) (p1 : Int32) (land : Nat → Int64) (there : Int32) (near : Nat → Int32) (worn : Nat → Int32) (trial : Nat → Int32) (fits : Nat → Int32) (ways : Nat → Int64) (joined : Nat → Nat → Int32) (P : Int32 → Prop) (h : q_L_enclosed p1 land P) : xHi l yL_enclosed wsL_enclosed rm_L_enclosed D vwCl (xtys cI cJ cZ cA) (wX0J cI cJ cZ cA V land there near worn trial fits ways joined) [.ref (V 0), .int p1] RX0 [(183, "there is no such country")] (σ := Unit) (fun _ => (wX0J cI cJ cZ cA V land there near worn trial fits ways joined)) (fun r _ => P r) 1 6 := by
  refine xHi_of (cc := cL_enclosed) (maxL := 3) (hh := [(0, 5, 6, 16)]) (by decide) rfl (Nat.le_of_ble_eq_true rfl) ?_
  intro X K hE ht hX
  have K : xk X l rm_L_enclosed D vwCl (xtys cI cJ cZ cA) cL_enclosed RL wsL_enclosed 3 := K
  unfold q_L_enclosed at h
  refine x_aload_n (pc := 0) K dL_enclosed_0 0 rfl rfl ?_
  refine x_iload_n (pc := 1) K dL_enclosed_1 1 rfl rfl ?_
  refine x_tcallVi (pc := 2) (n := 1) K hE (by decide) (c_X0_enclosed l D cI cJ cZ cA hst V p1 land there near worn trial fits ways _ _ h) rfl rfl gL_enclosed_X0_enclosed rfl (by decide +kernel) ⟨Nat.le_of_ble_eq_true rfl, Nat.le_of_ble_eq_true rfl⟩ rfl (av := [.int p1]) (b := V 0) (ci := 0) (q0 := 0) rfl rfl rfl (Nat.le_of_ble_eq_true rfl) [0, 1, 2, 3, 4, 5, 6] [7, 8, 9, 10, 11, 12, 13, 14, 15, 16, 17] (wr := (wJ cI cA (V 7) (fun k => V (k + 8)) joined)) rfl rfl rfl rfl (by decide) dL_enclosed_2 ⟨Nat.le_of_ble_eq_true rfl, Nat.le_of_ble_eq_true rfl⟩ (fun E hT => ?_) (fun r u9 h => ?_)
  · obtain ⟨rfl, hp⟩ := hT
    refine x_catch K hE ht [] (0, 5, 6, 16) [] rfl (fun z hz => absurd hz List.not_mem_nil) (by decide) (by decide) kL_enclosed_0 (by decide) (fun q => ?_)
    refine x_astore_n (lv' := [(0, .ref (V 0)), (1, .int p1), (2, .ref q)]) (pc := 6) K dL_enclosed_6 rfl (by decide) rfl ?_
    refine x_ldc (pc := 7) (v := (-1000001)) K kL_enclosed_1 dL_enclosed_7 ?_
    refine x_wsub (ws' := (wX0J cI cJ cZ cA V land there near worn trial fits ways joined)) [11, 12, 13, 14, 15, 16, 17, 0, 1, 2, 3, 4, 5, 6, 7, 8, 9, 10] rfl rfl ?_
    exact hX (-1000001) () _ _ hp dL_enclosed_9
  · refine x_wsub (ws' := (wX0J cI cJ cZ cA V land there near worn trial fits ways joined)) [11, 12, 13, 14, 15, 16, 17, 0, 1, 2, 3, 4, 5, 6, 7, 8, 9, 10] rfl rfl ?_
    exact hX r () _ _ h dL_enclosed_5
set_option maxHeartbeats 4000000 in
set_option maxRecDepth 100000 in
theorem c0_L_enclosed (l : Launch) (D : va_G) (cI cJ cZ cA : ClassId) (V : Nat → Nat) (p1 : Int32) (land : Nat → Int64) (there : Int32) (near : Nat → Int32) (worn : Nat → Int32) (trial : Nat → Int32) (fits : Nat → Int32) (ways : Nat → Int64) (joined : Nat → Nat → Int32) (P : Int32 → Prop) (h : q0_L_enclosed p1 land P) : xMi l yL_enclosed wsL_enclosed rm0_L_enclosed D vwCl (xtys cI cJ cZ cA) (wX0J cI cJ cZ cA V land there near worn trial fits ways joined) [.ref (V 0), .int p1] (σ := Unit) (fun _ => (wX0J cI cJ cZ cA V land there near worn trial fits ways joined)) (fun r _ => P r) := by
  refine xMiW_of (cc := cL_enclosed) (maxL := 3) (hh := [(0, 5, 6, 16)]) (by decide) rfl (Nat.le_of_ble_eq_true rfl) ?_
  intro X K hX
  have K : xk X l rm0_L_enclosed D vwCl (xtys cI cJ cZ cA) cL_enclosed RL wsL_enclosed 3 := K
  unfold q0_L_enclosed at h
  refine x_aload_n (pc := 0) K dL_enclosed_0 0 rfl rfl ?_
  refine x_iload_n (pc := 1) K dL_enclosed_1 1 rfl rfl ?_
  refine x_callVi (pc := 2) (n := 1) K (c0_X0_enclosed l D cI cJ cZ cA V p1 land there near worn trial fits ways _ h) rfl rfl gL_enclosed_X0_enclosed rfl (by decide +kernel) ⟨Nat.le_of_ble_eq_true rfl, Nat.le_of_ble_eq_true rfl⟩ rfl (av := [.int p1]) (b := V 0) (ci := 0) (q0 := 0) rfl rfl rfl (Nat.le_of_ble_eq_true rfl) [0, 1, 2, 3, 4, 5, 6] [7, 8, 9, 10, 11, 12, 13, 14, 15, 16, 17] (wr := (wJ cI cA (V 7) (fun k => V (k + 8)) joined)) rfl rfl rfl rfl (by decide) dL_enclosed_2 ⟨Nat.le_of_ble_eq_true rfl, Nat.le_of_ble_eq_true rfl⟩ (fun r u9 h => ?_)
  refine x_wsub (ws' := (wX0J cI cJ cZ cA V land there near worn trial fits ways joined)) [11, 12, 13, 14, 15, 16, 17, 0, 1, 2, 3, 4, 5, 6, 7, 8, 9, 10] rfl rfl ?_
  exact hX r () _ _ h dL_enclosed_5
def q_L_tint (p1 : Int32) (p2 : Int32) (worn : Nat → Int32) (P : Int32 → (Nat → Int32) → Prop) : Prop := q_X0_tint p1 p2 worn (fun (r : Int32) (o0 : Nat → Int32) => P r o0) (fun E => (E = "java/lang/IndexOutOfBoundsException" ∧ P (-1000001 : Int32) worn) ∨ (E = "java/lang/IllegalArgumentException" ∧ P (-1000002 : Int32) worn))
abbrev rm_L_tint : Room := { frames := 10, cells := 2, slots := 12, locals := 200 }
abbrev rm0_L_tint : Room := { frames := 10, cells := 0, slots := 0, locals := 200 }
theorem kL_tint_0 : Cond.classLink RL 16 "java/lang/IndexOutOfBoundsException" ∈ wsL_tint := by decide +kernel
theorem kL_tint_1 : Cond.constant RL 18 (-1000001) ∈ wsL_tint := by decide +kernel
theorem kL_tint_2 : Cond.classLink RL 19 "java/lang/IllegalArgumentException" ∈ wsL_tint := by decide +kernel
theorem kL_tint_3 : Cond.constant RL 21 (-1000002) ∈ wsL_tint := by decide +kernel
set_option maxHeartbeats 4000000 in
set_option maxRecDepth 100000 in
theorem c_L_tint (l : Launch) (D : va_G) (cI cJ cZ cA : ClassId) (hst : l.stackTraces = false) (V : Nat → Nat) (p1 : Int32) (p2 : Int32) (land : Nat → Int64) (there : Int32) (near : Nat → Int32) (worn : Nat → Int32) (trial : Nat → Int32) (fits : Nat → Int32) (ways : Nat → Int64) (joined : Nat → Nat → Int32) (P : Int32 → (Nat → Int32) → Prop) (h : q_L_tint p1 p2 worn P) : xHi l yL_tint wsL_tint rm_L_tint D vwCl (xtys cI cJ cZ cA) (wX0J cI cJ cZ cA V land there near worn trial fits ways joined) [.ref (V 0), .int p1, .int p2] RX0 [(183, "there is no such country"), (187, "there is no such tint")] (σ := (Nat → Int32)) (fun u => (wX0J cI cJ cZ cA V land there near u trial fits ways joined)) (fun r u => P r u) 2 12 := by
  refine xHi_of (cc := cL_tint) (maxL := 4) (hh := [(0, 6, 7, 16), (0, 6, 11, 19)]) (by decide) rfl (Nat.le_of_ble_eq_true rfl) ?_
  intro X K hE ht hX
  have K : xk X l rm_L_tint D vwCl (xtys cI cJ cZ cA) cL_tint RL wsL_tint 4 := K
  unfold q_L_tint at h
  refine x_aload_n (pc := 0) K dL_tint_0 0 rfl rfl ?_
  refine x_iload_n (pc := 1) K dL_tint_1 1 rfl rfl ?_
  refine x_iload_n (pc := 2) K dL_tint_2 2 rfl rfl ?_
  refine x_tcallVi (pc := 3) (n := 2) K hE (by decide) (c_X0_tint l D cI cJ cZ cA hst V p1 p2 land there near worn trial fits ways _ _ h) rfl rfl gL_tint_X0_tint rfl (by decide +kernel) ⟨Nat.le_of_ble_eq_true rfl, Nat.le_of_ble_eq_true rfl⟩ rfl (av := [.int p1, .int p2]) (b := V 0) (ci := 0) (q0 := 0) rfl rfl rfl (Nat.le_of_ble_eq_true rfl) [0, 1, 2, 3, 4, 5, 6] [7, 8, 9, 10, 11, 12, 13, 14, 15, 16, 17] (wr := (wJ cI cA (V 7) (fun k => V (k + 8)) joined)) rfl rfl rfl rfl (by decide) dL_tint_3 ⟨Nat.le_of_ble_eq_true rfl, Nat.le_of_ble_eq_true rfl⟩ (fun E hT => ?_) (fun r o0 h => ?_)
  · rcases hT with ⟨rfl, hp⟩ | ⟨rfl, hp⟩
    · refine x_catch K hE ht [] (0, 6, 7, 16) [(0, 6, 11, 19)] rfl (fun z hz => absurd hz List.not_mem_nil) (by decide) (by decide) kL_tint_0 (by decide) (fun q => ?_)
      refine x_astore_n (lv' := [(0, .ref (V 0)), (1, .int p1), (2, .int p2), (3, .ref q)]) (pc := 7) K dL_tint_7 rfl (by decide) rfl ?_
      refine x_ldc (pc := 8) (v := (-1000001)) K kL_tint_1 dL_tint_8 ?_
      refine x_wsub (ws' := (wX0J cI cJ cZ cA V land there near worn trial fits ways joined)) [11, 12, 13, 14, 15, 16, 17, 0, 1, 2, 3, 4, 5, 6, 7, 8, 9, 10] rfl rfl ?_
      exact hX (-1000001) worn _ _ hp dL_tint_10
    · refine x_catch K hE ht [(0, 6, 7, 16)] (0, 6, 11, 19) [] rfl (fun z hz => by obtain rfl := List.mem_singleton.mp hz; exact ⟨by decide, "java/lang/IndexOutOfBoundsException", kL_tint_0, by decide⟩) (by decide) (by decide) kL_tint_2 (by decide) (fun q => ?_)
      refine x_astore_n (lv' := [(0, .ref (V 0)), (1, .int p1), (2, .int p2), (3, .ref q)]) (pc := 11) K dL_tint_11 rfl (by decide) rfl ?_
      refine x_ldc (pc := 12) (v := (-1000002)) K kL_tint_3 dL_tint_12 ?_
      refine x_wsub (ws' := (wX0J cI cJ cZ cA V land there near worn trial fits ways joined)) [11, 12, 13, 14, 15, 16, 17, 0, 1, 2, 3, 4, 5, 6, 7, 8, 9, 10] rfl rfl ?_
      exact hX (-1000002) worn _ _ hp dL_tint_14
  · refine x_wsub (ws' := (wX0J cI cJ cZ cA V land there near o0 trial fits ways joined)) [11, 12, 13, 14, 15, 16, 17, 0, 1, 2, 3, 4, 5, 6, 7, 8, 9, 10] rfl rfl ?_
    exact hX r o0 _ _ h dL_tint_6
def q_L_tintOf (p1 : Int32) (worn : Nat → Int32) (P : Int32 → Prop) : Prop := q_X0_tintOf p1 worn (fun (r : Int32) => P r) (fun E => (E = "java/lang/IndexOutOfBoundsException" ∧ P (-1000001 : Int32)))
def q0_L_tintOf (p1 : Int32) (worn : Nat → Int32) (P : Int32 → Prop) : Prop := q_X0_tintOf p1 worn (fun (r : Int32) => P r) (fun _ => False)
abbrev rm_L_tintOf : Room := { frames := 10, cells := 1, slots := 6, locals := 200 }
abbrev rm0_L_tintOf : Room := { frames := 10, cells := 0, slots := 0, locals := 200 }
theorem kL_tintOf_0 : Cond.classLink RL 16 "java/lang/IndexOutOfBoundsException" ∈ wsL_tintOf := by decide +kernel
theorem kL_tintOf_1 : Cond.constant RL 18 (-1000001) ∈ wsL_tintOf := by decide +kernel
set_option maxHeartbeats 4000000 in
set_option maxRecDepth 100000 in
theorem c_L_tintOf (l : Launch) (D : va_G) (cI cJ cZ cA : ClassId) (hst : l.stackTraces = false) (V : Nat → Nat) (p1 : Int32) (land : Nat → Int64) (there : Int32) (near : Nat → Int32) (worn : Nat → Int32) (trial : Nat → Int32) (fits : Nat → Int32) (ways : Nat → Int64) (joined : Nat → Nat → Int32) (P : Int32 → Prop) (h : q_L_tintOf p1 worn P) : xHi l yL_tintOf wsL_tintOf rm_L_tintOf D vwCl (xtys cI cJ cZ cA) (wX0J cI cJ cZ cA V land there near worn trial fits ways joined) [.ref (V 0), .int p1] RX0 [(183, "there is no such country")] (σ := Unit) (fun _ => (wX0J cI cJ cZ cA V land there near worn trial fits ways joined)) (fun r _ => P r) 1 6 := by
  refine xHi_of (cc := cL_tintOf) (maxL := 3) (hh := [(0, 5, 6, 16)]) (by decide) rfl (Nat.le_of_ble_eq_true rfl) ?_
  intro X K hE ht hX
  have K : xk X l rm_L_tintOf D vwCl (xtys cI cJ cZ cA) cL_tintOf RL wsL_tintOf 3 := K
  unfold q_L_tintOf at h
  refine x_aload_n (pc := 0) K dL_tintOf_0 0 rfl rfl ?_
  refine x_iload_n (pc := 1) K dL_tintOf_1 1 rfl rfl ?_
  refine x_tcallVi (pc := 2) (n := 1) K hE (by decide) (c_X0_tintOf l D cI cJ cZ cA hst V p1 land there near worn trial fits ways _ _ h) rfl rfl gL_tintOf_X0_tintOf rfl (by decide +kernel) ⟨Nat.le_of_ble_eq_true rfl, Nat.le_of_ble_eq_true rfl⟩ rfl (av := [.int p1]) (b := V 0) (ci := 0) (q0 := 0) rfl rfl rfl (Nat.le_of_ble_eq_true rfl) [0, 1, 2, 3, 4, 5, 6] [7, 8, 9, 10, 11, 12, 13, 14, 15, 16, 17] (wr := (wJ cI cA (V 7) (fun k => V (k + 8)) joined)) rfl rfl rfl rfl (by decide) dL_tintOf_2 ⟨Nat.le_of_ble_eq_true rfl, Nat.le_of_ble_eq_true rfl⟩ (fun E hT => ?_) (fun r u9 h => ?_)
  · obtain ⟨rfl, hp⟩ := hT
    refine x_catch K hE ht [] (0, 5, 6, 16) [] rfl (fun z hz => absurd hz List.not_mem_nil) (by decide) (by decide) kL_tintOf_0 (by decide) (fun q => ?_)
    refine x_astore_n (lv' := [(0, .ref (V 0)), (1, .int p1), (2, .ref q)]) (pc := 6) K dL_tintOf_6 rfl (by decide) rfl ?_
    refine x_ldc (pc := 7) (v := (-1000001)) K kL_tintOf_1 dL_tintOf_7 ?_
    refine x_wsub (ws' := (wX0J cI cJ cZ cA V land there near worn trial fits ways joined)) [11, 12, 13, 14, 15, 16, 17, 0, 1, 2, 3, 4, 5, 6, 7, 8, 9, 10] rfl rfl ?_
    exact hX (-1000001) () _ _ hp dL_tintOf_9
  · refine x_wsub (ws' := (wX0J cI cJ cZ cA V land there near worn trial fits ways joined)) [11, 12, 13, 14, 15, 16, 17, 0, 1, 2, 3, 4, 5, 6, 7, 8, 9, 10] rfl rfl ?_
    exact hX r () _ _ h dL_tintOf_5
set_option maxHeartbeats 4000000 in
set_option maxRecDepth 100000 in
theorem c0_L_tintOf (l : Launch) (D : va_G) (cI cJ cZ cA : ClassId) (V : Nat → Nat) (p1 : Int32) (land : Nat → Int64) (there : Int32) (near : Nat → Int32) (worn : Nat → Int32) (trial : Nat → Int32) (fits : Nat → Int32) (ways : Nat → Int64) (joined : Nat → Nat → Int32) (P : Int32 → Prop) (h : q0_L_tintOf p1 worn P) : xMi l yL_tintOf wsL_tintOf rm0_L_tintOf D vwCl (xtys cI cJ cZ cA) (wX0J cI cJ cZ cA V land there near worn trial fits ways joined) [.ref (V 0), .int p1] (σ := Unit) (fun _ => (wX0J cI cJ cZ cA V land there near worn trial fits ways joined)) (fun r _ => P r) := by
  refine xMiW_of (cc := cL_tintOf) (maxL := 3) (hh := [(0, 5, 6, 16)]) (by decide) rfl (Nat.le_of_ble_eq_true rfl) ?_
  intro X K hX
  have K : xk X l rm0_L_tintOf D vwCl (xtys cI cJ cZ cA) cL_tintOf RL wsL_tintOf 3 := K
  unfold q0_L_tintOf at h
  refine x_aload_n (pc := 0) K dL_tintOf_0 0 rfl rfl ?_
  refine x_iload_n (pc := 1) K dL_tintOf_1 1 rfl rfl ?_
  refine x_callVi (pc := 2) (n := 1) K (c0_X0_tintOf l D cI cJ cZ cA V p1 land there near worn trial fits ways _ h) rfl rfl gL_tintOf_X0_tintOf rfl (by decide +kernel) ⟨Nat.le_of_ble_eq_true rfl, Nat.le_of_ble_eq_true rfl⟩ rfl (av := [.int p1]) (b := V 0) (ci := 0) (q0 := 0) rfl rfl rfl (Nat.le_of_ble_eq_true rfl) [0, 1, 2, 3, 4, 5, 6] [7, 8, 9, 10, 11, 12, 13, 14, 15, 16, 17] (wr := (wJ cI cA (V 7) (fun k => V (k + 8)) joined)) rfl rfl rfl rfl (by decide) dL_tintOf_2 ⟨Nat.le_of_ble_eq_true rfl, Nat.le_of_ble_eq_true rfl⟩ (fun r u9 h => ?_)
  refine x_wsub (ws' := (wX0J cI cJ cZ cA V land there near worn trial fits ways joined)) [11, 12, 13, 14, 15, 16, 17, 0, 1, 2, 3, 4, 5, 6, 7, 8, 9, 10] rfl rfl ?_
  exact hX r () _ _ h dL_tintOf_5
def q_L_leastFree (p1 : Int32) (near : Nat → Int32) (worn : Nat → Int32) (P : Int32 → Prop) : Prop := q_X0_leastFree p1 near worn (fun (r : Int32) => P r) (fun E => (E = "java/lang/IndexOutOfBoundsException" ∧ P (-1000001 : Int32)))
def q0_L_leastFree (p1 : Int32) (near : Nat → Int32) (worn : Nat → Int32) (P : Int32 → Prop) : Prop := q_X0_leastFree p1 near worn (fun (r : Int32) => P r) (fun _ => False)
abbrev rm_L_leastFree : Room := { frames := 11, cells := 1, slots := 6, locals := 240 }
abbrev rm0_L_leastFree : Room := { frames := 11, cells := 0, slots := 0, locals := 240 }
theorem kL_leastFree_0 : Cond.classLink RL 16 "java/lang/IndexOutOfBoundsException" ∈ wsL_leastFree := by decide +kernel
theorem kL_leastFree_1 : Cond.constant RL 18 (-1000001) ∈ wsL_leastFree := by decide +kernel
set_option maxHeartbeats 4000000 in
set_option maxRecDepth 100000 in
theorem c_L_leastFree (l : Launch) (D : va_G) (cI cJ cZ cA : ClassId) (hst : l.stackTraces = false) (V : Nat → Nat) (p1 : Int32) (land : Nat → Int64) (there : Int32) (near : Nat → Int32) (worn : Nat → Int32) (trial : Nat → Int32) (fits : Nat → Int32) (ways : Nat → Int64) (joined : Nat → Nat → Int32) (P : Int32 → Prop) (h : q_L_leastFree p1 near worn P) : xHi l yL_leastFree wsL_leastFree rm_L_leastFree D vwCl (xtys cI cJ cZ cA) (wX0J cI cJ cZ cA V land there near worn trial fits ways joined) [.ref (V 0), .int p1] RX0 [(183, "there is no such country")] (σ := Unit) (fun _ => (wX0J cI cJ cZ cA V land there near worn trial fits ways joined)) (fun r _ => P r) 1 6 := by
  refine xHi_of (cc := cL_leastFree) (maxL := 3) (hh := [(0, 5, 6, 16)]) (by decide) rfl (Nat.le_of_ble_eq_true rfl) ?_
  intro X K hE ht hX
  have K : xk X l rm_L_leastFree D vwCl (xtys cI cJ cZ cA) cL_leastFree RL wsL_leastFree 3 := K
  unfold q_L_leastFree at h
  refine x_aload_n (pc := 0) K dL_leastFree_0 0 rfl rfl ?_
  refine x_iload_n (pc := 1) K dL_leastFree_1 1 rfl rfl ?_
  refine x_tcallVi (pc := 2) (n := 1) K hE (by decide) (c_X0_leastFree l D cI cJ cZ cA hst V p1 land there near worn trial fits ways _ _ h) rfl rfl gL_leastFree_X0_leastFree rfl (by decide +kernel) ⟨Nat.le_of_ble_eq_true rfl, Nat.le_of_ble_eq_true rfl⟩ rfl (av := [.int p1]) (b := V 0) (ci := 0) (q0 := 0) rfl rfl rfl (Nat.le_of_ble_eq_true rfl) [0, 1, 2, 3, 4, 5, 6] [7, 8, 9, 10, 11, 12, 13, 14, 15, 16, 17] (wr := (wJ cI cA (V 7) (fun k => V (k + 8)) joined)) rfl rfl rfl rfl (by decide) dL_leastFree_2 ⟨Nat.le_of_ble_eq_true rfl, Nat.le_of_ble_eq_true rfl⟩ (fun E hT => ?_) (fun r u9 h => ?_)
  · obtain ⟨rfl, hp⟩ := hT
    refine x_catch K hE ht [] (0, 5, 6, 16) [] rfl (fun z hz => absurd hz List.not_mem_nil) (by decide) (by decide) kL_leastFree_0 (by decide) (fun q => ?_)
    refine x_astore_n (lv' := [(0, .ref (V 0)), (1, .int p1), (2, .ref q)]) (pc := 6) K dL_leastFree_6 rfl (by decide) rfl ?_
    refine x_ldc (pc := 7) (v := (-1000001)) K kL_leastFree_1 dL_leastFree_7 ?_
    refine x_wsub (ws' := (wX0J cI cJ cZ cA V land there near worn trial fits ways joined)) [11, 12, 13, 14, 15, 16, 17, 0, 1, 2, 3, 4, 5, 6, 7, 8, 9, 10] rfl rfl ?_
    exact hX (-1000001) () _ _ hp dL_leastFree_9
  · refine x_wsub (ws' := (wX0J cI cJ cZ cA V land there near worn trial fits ways joined)) [11, 12, 13, 14, 15, 16, 17, 0, 1, 2, 3, 4, 5, 6, 7, 8, 9, 10] rfl rfl ?_
    exact hX r () _ _ h dL_leastFree_5
set_option maxHeartbeats 4000000 in
set_option maxRecDepth 100000 in
theorem c0_L_leastFree (l : Launch) (D : va_G) (cI cJ cZ cA : ClassId) (V : Nat → Nat) (p1 : Int32) (land : Nat → Int64) (there : Int32) (near : Nat → Int32) (worn : Nat → Int32) (trial : Nat → Int32) (fits : Nat → Int32) (ways : Nat → Int64) (joined : Nat → Nat → Int32) (P : Int32 → Prop) (h : q0_L_leastFree p1 near worn P) : xMi l yL_leastFree wsL_leastFree rm0_L_leastFree D vwCl (xtys cI cJ cZ cA) (wX0J cI cJ cZ cA V land there near worn trial fits ways joined) [.ref (V 0), .int p1] (σ := Unit) (fun _ => (wX0J cI cJ cZ cA V land there near worn trial fits ways joined)) (fun r _ => P r) := by
  refine xMiW_of (cc := cL_leastFree) (maxL := 3) (hh := [(0, 5, 6, 16)]) (by decide) rfl (Nat.le_of_ble_eq_true rfl) ?_
  intro X K hX
  have K : xk X l rm0_L_leastFree D vwCl (xtys cI cJ cZ cA) cL_leastFree RL wsL_leastFree 3 := K
  unfold q0_L_leastFree at h
  refine x_aload_n (pc := 0) K dL_leastFree_0 0 rfl rfl ?_
  refine x_iload_n (pc := 1) K dL_leastFree_1 1 rfl rfl ?_
  refine x_callVi (pc := 2) (n := 1) K (c0_X0_leastFree l D cI cJ cZ cA V p1 land there near worn trial fits ways _ h) rfl rfl gL_leastFree_X0_leastFree rfl (by decide +kernel) ⟨Nat.le_of_ble_eq_true rfl, Nat.le_of_ble_eq_true rfl⟩ rfl (av := [.int p1]) (b := V 0) (ci := 0) (q0 := 0) rfl rfl rfl (Nat.le_of_ble_eq_true rfl) [0, 1, 2, 3, 4, 5, 6] [7, 8, 9, 10, 11, 12, 13, 14, 15, 16, 17] (wr := (wJ cI cA (V 7) (fun k => V (k + 8)) joined)) rfl rfl rfl rfl (by decide) dL_leastFree_2 ⟨Nat.le_of_ble_eq_true rfl, Nat.le_of_ble_eq_true rfl⟩ (fun r u9 h => ?_)
  refine x_wsub (ws' := (wX0J cI cJ cZ cA V land there near worn trial fits ways joined)) [11, 12, 13, 14, 15, 16, 17, 0, 1, 2, 3, 4, 5, 6, 7, 8, 9, 10] rfl rfl ?_
  exact hX r () _ _ h dL_leastFree_5
def q_L_chain (p1 : Int32) (p2 : Int32) (there : Int32) (near : Nat → Int32) (worn : Nat → Int32) (P : Int32 → Prop) : Prop := q_X0_chain p1 p2 there near worn (fun (r : Int32) => P r) (fun E => (E = "java/lang/IndexOutOfBoundsException" ∧ P (-1000001 : Int32)) ∨ (E = "java/lang/IllegalArgumentException" ∧ P (-1000002 : Int32)) ∨ (E = "java/lang/IllegalStateException" ∧ P (-1000003 : Int32)))
abbrev rm_L_chain : Room := { frames := 11, cells := 3, slots := 18, locals := 240 }
abbrev rm0_L_chain : Room := { frames := 11, cells := 0, slots := 0, locals := 240 }
theorem kL_chain_0 : Cond.classLink RL 16 "java/lang/IndexOutOfBoundsException" ∈ wsL_chain := by decide +kernel
theorem kL_chain_1 : Cond.constant RL 18 (-1000001) ∈ wsL_chain := by decide +kernel
theorem kL_chain_2 : Cond.classLink RL 19 "java/lang/IllegalArgumentException" ∈ wsL_chain := by decide +kernel
theorem kL_chain_3 : Cond.constant RL 21 (-1000002) ∈ wsL_chain := by decide +kernel
theorem kL_chain_4 : Cond.classLink RL 61 "java/lang/IllegalStateException" ∈ wsL_chain := by decide +kernel
theorem kL_chain_5 : Cond.constant RL 63 (-1000003) ∈ wsL_chain := by decide +kernel
set_option maxHeartbeats 4000000 in
set_option maxRecDepth 100000 in
theorem c_L_chain (l : Launch) (D : va_G) (cI cJ cZ cA : ClassId) (hst : l.stackTraces = false) (V : Nat → Nat) (p1 : Int32) (p2 : Int32) (land : Nat → Int64) (there : Int32) (near : Nat → Int32) (worn : Nat → Int32) (trial : Nat → Int32) (fits : Nat → Int32) (ways : Nat → Int64) (joined : Nat → Nat → Int32) (P : Int32 → Prop) (h : q_L_chain p1 p2 there near worn P) : xHi l yL_chain wsL_chain rm_L_chain D vwCl (xtys cI cJ cZ cA) (wX0J cI cJ cZ cA V land there near worn trial fits ways joined) [.ref (V 0), .int p1, .int p2] RX0 [(183, "there is no such country"), (187, "there is no such tint"), (193, "the country is not there or has no tint")] (σ := Unit) (fun _ => (wX0J cI cJ cZ cA V land there near worn trial fits ways joined)) (fun r _ => P r) 3 18 := by
  refine xHi_of (cc := cL_chain) (maxL := 4) (hh := [(0, 6, 7, 16), (0, 6, 11, 19), (0, 6, 15, 61)]) (by decide) rfl (Nat.le_of_ble_eq_true rfl) ?_
  intro X K hE ht hX
  have K : xk X l rm_L_chain D vwCl (xtys cI cJ cZ cA) cL_chain RL wsL_chain 4 := K
  unfold q_L_chain at h
  refine x_aload_n (pc := 0) K dL_chain_0 0 rfl rfl ?_
  refine x_iload_n (pc := 1) K dL_chain_1 1 rfl rfl ?_
  refine x_iload_n (pc := 2) K dL_chain_2 2 rfl rfl ?_
  refine x_tcallVi (pc := 3) (n := 2) K hE (by decide) (c_X0_chain l D cI cJ cZ cA hst V p1 p2 land there near worn trial fits ways _ _ h) rfl rfl gL_chain_X0_chain rfl (by decide +kernel) ⟨Nat.le_of_ble_eq_true rfl, Nat.le_of_ble_eq_true rfl⟩ rfl (av := [.int p1, .int p2]) (b := V 0) (ci := 0) (q0 := 0) rfl rfl rfl (Nat.le_of_ble_eq_true rfl) [0, 1, 2, 3, 4, 5, 6] [7, 8, 9, 10, 11, 12, 13, 14, 15, 16, 17] (wr := (wJ cI cA (V 7) (fun k => V (k + 8)) joined)) rfl rfl rfl rfl (by decide) dL_chain_3 ⟨Nat.le_of_ble_eq_true rfl, Nat.le_of_ble_eq_true rfl⟩ (fun E hT => ?_) (fun r u9 h => ?_)
  · rcases hT with ⟨rfl, hp⟩ | ⟨rfl, hp⟩ | ⟨rfl, hp⟩
    · refine x_catch K hE ht [] (0, 6, 7, 16) [(0, 6, 11, 19), (0, 6, 15, 61)] rfl (fun z hz => absurd hz List.not_mem_nil) (by decide) (by decide) kL_chain_0 (by decide) (fun q => ?_)
      refine x_astore_n (lv' := [(0, .ref (V 0)), (1, .int p1), (2, .int p2), (3, .ref q)]) (pc := 7) K dL_chain_7 rfl (by decide) rfl ?_
      refine x_ldc (pc := 8) (v := (-1000001)) K kL_chain_1 dL_chain_8 ?_
      refine x_wsub (ws' := (wX0J cI cJ cZ cA V land there near worn trial fits ways joined)) [11, 12, 13, 14, 15, 16, 17, 0, 1, 2, 3, 4, 5, 6, 7, 8, 9, 10] rfl rfl ?_
      exact hX (-1000001) () _ _ hp dL_chain_10
    · refine x_catch K hE ht [(0, 6, 7, 16)] (0, 6, 11, 19) [(0, 6, 15, 61)] rfl (fun z hz => by obtain rfl := List.mem_singleton.mp hz; exact ⟨by decide, "java/lang/IndexOutOfBoundsException", kL_chain_0, by decide⟩) (by decide) (by decide) kL_chain_2 (by decide) (fun q => ?_)
      refine x_astore_n (lv' := [(0, .ref (V 0)), (1, .int p1), (2, .int p2), (3, .ref q)]) (pc := 11) K dL_chain_11 rfl (by decide) rfl ?_
      refine x_ldc (pc := 12) (v := (-1000002)) K kL_chain_3 dL_chain_12 ?_
      refine x_wsub (ws' := (wX0J cI cJ cZ cA V land there near worn trial fits ways joined)) [11, 12, 13, 14, 15, 16, 17, 0, 1, 2, 3, 4, 5, 6, 7, 8, 9, 10] rfl rfl ?_
      exact hX (-1000002) () _ _ hp dL_chain_14
    · refine x_catch K hE ht [(0, 6, 7, 16), (0, 6, 11, 19)] (0, 6, 15, 61) [] rfl (fun z hz => by rcases List.mem_cons.mp hz with rfl | hz; exact ⟨by decide, "java/lang/IndexOutOfBoundsException", kL_chain_0, by decide⟩; obtain rfl := List.mem_singleton.mp hz; exact ⟨by decide, "java/lang/IllegalArgumentException", kL_chain_2, by decide⟩) (by decide) (by decide) kL_chain_4 (by decide) (fun q => ?_)
      refine x_astore_n (lv' := [(0, .ref (V 0)), (1, .int p1), (2, .int p2), (3, .ref q)]) (pc := 15) K dL_chain_15 rfl (by decide) rfl ?_
      refine x_ldc (pc := 16) (v := (-1000003)) K kL_chain_5 dL_chain_16 ?_
      refine x_wsub (ws' := (wX0J cI cJ cZ cA V land there near worn trial fits ways joined)) [11, 12, 13, 14, 15, 16, 17, 0, 1, 2, 3, 4, 5, 6, 7, 8, 9, 10] rfl rfl ?_
      exact hX (-1000003) () _ _ hp dL_chain_18
  · refine x_wsub (ws' := (wX0J cI cJ cZ cA V land there near worn trial fits ways joined)) [11, 12, 13, 14, 15, 16, 17, 0, 1, 2, 3, 4, 5, 6, 7, 8, 9, 10] rfl rfl ?_
    exact hX r () _ _ h dL_chain_6
def q_L_exchange (p1 : Int32) (p2 : Int32) (there : Int32) (near : Nat → Int32) (worn : Nat → Int32) (P : Int32 → (Nat → Int32) → Prop) : Prop := q_X0_exchange p1 p2 there near worn (fun (r : Int32) (o0 : Nat → Int32) => P r o0) (fun E => (E = "java/lang/IndexOutOfBoundsException" ∧ P (-1000001 : Int32) worn) ∨ (E = "java/lang/IllegalArgumentException" ∧ P (-1000002 : Int32) worn) ∨ (E = "java/lang/IllegalStateException" ∧ P (-1000003 : Int32) worn))
abbrev rm_L_exchange : Room := { frames := 11, cells := 3, slots := 18, locals := 240 }
abbrev rm0_L_exchange : Room := { frames := 11, cells := 0, slots := 0, locals := 240 }
theorem kL_exchange_0 : Cond.classLink RL 16 "java/lang/IndexOutOfBoundsException" ∈ wsL_exchange := by decide +kernel
theorem kL_exchange_1 : Cond.constant RL 18 (-1000001) ∈ wsL_exchange := by decide +kernel
theorem kL_exchange_2 : Cond.classLink RL 19 "java/lang/IllegalArgumentException" ∈ wsL_exchange := by decide +kernel
theorem kL_exchange_3 : Cond.constant RL 21 (-1000002) ∈ wsL_exchange := by decide +kernel
theorem kL_exchange_4 : Cond.classLink RL 61 "java/lang/IllegalStateException" ∈ wsL_exchange := by decide +kernel
theorem kL_exchange_5 : Cond.constant RL 63 (-1000003) ∈ wsL_exchange := by decide +kernel
set_option maxHeartbeats 4000000 in
set_option maxRecDepth 100000 in
theorem c_L_exchange (l : Launch) (D : va_G) (cI cJ cZ cA : ClassId) (hst : l.stackTraces = false) (V : Nat → Nat) (p1 : Int32) (p2 : Int32) (land : Nat → Int64) (there : Int32) (near : Nat → Int32) (worn : Nat → Int32) (trial : Nat → Int32) (fits : Nat → Int32) (ways : Nat → Int64) (joined : Nat → Nat → Int32) (P : Int32 → (Nat → Int32) → Prop) (h : q_L_exchange p1 p2 there near worn P) : xHi l yL_exchange wsL_exchange rm_L_exchange D vwCl (xtys cI cJ cZ cA) (wX0J cI cJ cZ cA V land there near worn trial fits ways joined) [.ref (V 0), .int p1, .int p2] RX0 [(183, "there is no such country"), (187, "there is no such tint"), (193, "the country is not there or has no tint")] (σ := (Nat → Int32)) (fun u => (wX0J cI cJ cZ cA V land there near u trial fits ways joined)) (fun r u => P r u) 3 18 := by
  refine xHi_of (cc := cL_exchange) (maxL := 4) (hh := [(0, 6, 7, 16), (0, 6, 11, 19), (0, 6, 15, 61)]) (by decide) rfl (Nat.le_of_ble_eq_true rfl) ?_
  intro X K hE ht hX
  have K : xk X l rm_L_exchange D vwCl (xtys cI cJ cZ cA) cL_exchange RL wsL_exchange 4 := K
  unfold q_L_exchange at h
  refine x_aload_n (pc := 0) K dL_exchange_0 0 rfl rfl ?_
  refine x_iload_n (pc := 1) K dL_exchange_1 1 rfl rfl ?_
  refine x_iload_n (pc := 2) K dL_exchange_2 2 rfl rfl ?_
  refine x_tcallVi (pc := 3) (n := 2) K hE (by decide) (c_X0_exchange l D cI cJ cZ cA hst V p1 p2 land there near worn trial fits ways _ _ h) rfl rfl gL_exchange_X0_exchange rfl (by decide +kernel) ⟨Nat.le_of_ble_eq_true rfl, Nat.le_of_ble_eq_true rfl⟩ rfl (av := [.int p1, .int p2]) (b := V 0) (ci := 0) (q0 := 0) rfl rfl rfl (Nat.le_of_ble_eq_true rfl) [0, 1, 2, 3, 4, 5, 6] [7, 8, 9, 10, 11, 12, 13, 14, 15, 16, 17] (wr := (wJ cI cA (V 7) (fun k => V (k + 8)) joined)) rfl rfl rfl rfl (by decide) dL_exchange_3 ⟨Nat.le_of_ble_eq_true rfl, Nat.le_of_ble_eq_true rfl⟩ (fun E hT => ?_) (fun r o0 h => ?_)
  · rcases hT with ⟨rfl, hp⟩ | ⟨rfl, hp⟩ | ⟨rfl, hp⟩
    · refine x_catch K hE ht [] (0, 6, 7, 16) [(0, 6, 11, 19), (0, 6, 15, 61)] rfl (fun z hz => absurd hz List.not_mem_nil) (by decide) (by decide) kL_exchange_0 (by decide) (fun q => ?_)
      refine x_astore_n (lv' := [(0, .ref (V 0)), (1, .int p1), (2, .int p2), (3, .ref q)]) (pc := 7) K dL_exchange_7 rfl (by decide) rfl ?_
      refine x_ldc (pc := 8) (v := (-1000001)) K kL_exchange_1 dL_exchange_8 ?_
      refine x_wsub (ws' := (wX0J cI cJ cZ cA V land there near worn trial fits ways joined)) [11, 12, 13, 14, 15, 16, 17, 0, 1, 2, 3, 4, 5, 6, 7, 8, 9, 10] rfl rfl ?_
      exact hX (-1000001) worn _ _ hp dL_exchange_10
    · refine x_catch K hE ht [(0, 6, 7, 16)] (0, 6, 11, 19) [(0, 6, 15, 61)] rfl (fun z hz => by obtain rfl := List.mem_singleton.mp hz; exact ⟨by decide, "java/lang/IndexOutOfBoundsException", kL_exchange_0, by decide⟩) (by decide) (by decide) kL_exchange_2 (by decide) (fun q => ?_)
      refine x_astore_n (lv' := [(0, .ref (V 0)), (1, .int p1), (2, .int p2), (3, .ref q)]) (pc := 11) K dL_exchange_11 rfl (by decide) rfl ?_
      refine x_ldc (pc := 12) (v := (-1000002)) K kL_exchange_3 dL_exchange_12 ?_
      refine x_wsub (ws' := (wX0J cI cJ cZ cA V land there near worn trial fits ways joined)) [11, 12, 13, 14, 15, 16, 17, 0, 1, 2, 3, 4, 5, 6, 7, 8, 9, 10] rfl rfl ?_
      exact hX (-1000002) worn _ _ hp dL_exchange_14
    · refine x_catch K hE ht [(0, 6, 7, 16), (0, 6, 11, 19)] (0, 6, 15, 61) [] rfl (fun z hz => by rcases List.mem_cons.mp hz with rfl | hz; exact ⟨by decide, "java/lang/IndexOutOfBoundsException", kL_exchange_0, by decide⟩; obtain rfl := List.mem_singleton.mp hz; exact ⟨by decide, "java/lang/IllegalArgumentException", kL_exchange_2, by decide⟩) (by decide) (by decide) kL_exchange_4 (by decide) (fun q => ?_)
      refine x_astore_n (lv' := [(0, .ref (V 0)), (1, .int p1), (2, .int p2), (3, .ref q)]) (pc := 15) K dL_exchange_15 rfl (by decide) rfl ?_
      refine x_ldc (pc := 16) (v := (-1000003)) K kL_exchange_5 dL_exchange_16 ?_
      refine x_wsub (ws' := (wX0J cI cJ cZ cA V land there near worn trial fits ways joined)) [11, 12, 13, 14, 15, 16, 17, 0, 1, 2, 3, 4, 5, 6, 7, 8, 9, 10] rfl rfl ?_
      exact hX (-1000003) worn _ _ hp dL_exchange_18
  · refine x_wsub (ws' := (wX0J cI cJ cZ cA V land there near o0 trial fits ways joined)) [11, 12, 13, 14, 15, 16, 17, 0, 1, 2, 3, 4, 5, 6, 7, 8, 9, 10] rfl rfl ?_
    exact hX r o0 _ _ h dL_exchange_6
def q_L_tintings (p1 : Int32) (there : Int32) (near : Nat → Int32) (fits : Nat → Int32) (ways : Nat → Int64) (P : Int64 → (Nat → Int32) → (Nat → Int64) → Prop) : Prop := q_X0_tintings p1 there near fits ways (fun (r : Int64) (o0 : Nat → Int32) (o1 : Nat → Int64) => P r o0 o1) (fun E => (E = "java/lang/IllegalArgumentException" ∧ P (-1000002 : Int64) fits ways))
def q0_L_tintings (p1 : Int32) (there : Int32) (near : Nat → Int32) (fits : Nat → Int32) (ways : Nat → Int64) (P : Int64 → (Nat → Int32) → (Nat → Int64) → Prop) : Prop := q_X0_tintings p1 there near fits ways (fun (r : Int64) (o0 : Nat → Int32) (o1 : Nat → Int64) => P r o0 o1) (fun _ => False)
abbrev rm_L_tintings : Room := { frames := 11, cells := 1, slots := 6, locals := 240 }
abbrev rm0_L_tintings : Room := { frames := 11, cells := 0, slots := 0, locals := 240 }
theorem kL_tintings_0 : Cond.classLink RL 19 "java/lang/IllegalArgumentException" ∈ wsL_tintings := by decide +kernel
theorem kL_tintings_1 : Cond.constantLong RL 71 (-1000002) ∈ wsL_tintings := by decide +kernel
set_option maxHeartbeats 4000000 in
set_option maxRecDepth 100000 in
theorem c_L_tintings (l : Launch) (D : va_G) (cI cJ cZ cA : ClassId) (hst : l.stackTraces = false) (V : Nat → Nat) (p1 : Int32) (land : Nat → Int64) (there : Int32) (near : Nat → Int32) (worn : Nat → Int32) (trial : Nat → Int32) (fits : Nat → Int32) (ways : Nat → Int64) (joined : Nat → Nat → Int32) (P : Int64 → (Nat → Int32) → (Nat → Int64) → Prop) (h : q_L_tintings p1 there near fits ways P) : xHl l yL_tintings wsL_tintings rm_L_tintings D vwCl (xtys cI cJ cZ cA) (wX0J cI cJ cZ cA V land there near worn trial fits ways joined) [.ref (V 0), .int p1] RX0 [(189, "there are not so many tints")] (σ := (Nat → Int32) × (Nat → Int64)) (fun u => (wX0J cI cJ cZ cA V land there near worn trial u.1 u.2 joined)) (fun r u => P r u.1 u.2) 1 6 := by
  refine xHl_of (cc := cL_tintings) (maxL := 3) (hh := [(0, 5, 6, 19)]) (by decide) rfl (Nat.le_of_ble_eq_true rfl) ?_
  intro X K hE ht hX
  have K : xk X l rm_L_tintings D vwCl (xtys cI cJ cZ cA) cL_tintings RL wsL_tintings 3 := K
  unfold q_L_tintings at h
  refine x_aload_n (pc := 0) K dL_tintings_0 0 rfl rfl ?_
  refine x_iload_n (pc := 1) K dL_tintings_1 1 rfl rfl ?_
  refine x_tcallVl (pc := 2) (n := 1) K hE (by decide) (c_X0_tintings l D cI cJ cZ cA hst V p1 land there near worn trial fits ways _ _ h) rfl rfl gL_tintings_X0_tintings rfl (by decide +kernel) ⟨Nat.le_of_ble_eq_true rfl, Nat.le_of_ble_eq_true rfl⟩ rfl (av := [.int p1]) (b := V 0) (ci := 0) (q0 := 0) rfl rfl rfl (Nat.le_of_ble_eq_true rfl) [0, 1, 2, 3, 4, 5, 6] [7, 8, 9, 10, 11, 12, 13, 14, 15, 16, 17] (wr := (wJ cI cA (V 7) (fun k => V (k + 8)) joined)) rfl rfl rfl rfl (by decide) dL_tintings_2 ⟨Nat.le_of_ble_eq_true rfl, Nat.le_of_ble_eq_true rfl⟩ (fun E hT => ?_) (fun r u9 h => ?_)
  · obtain ⟨rfl, hp⟩ := hT
    refine x_catch K hE ht [] (0, 5, 6, 19) [] rfl (fun z hz => absurd hz List.not_mem_nil) (by decide) (by decide) kL_tintings_0 (by decide) (fun q => ?_)
    refine x_astore_n (lv' := [(0, .ref (V 0)), (1, .int p1), (2, .ref q)]) (pc := 6) K dL_tintings_6 rfl (by decide) rfl ?_
    refine x_ldc2 (pc := 7) (v := (-1000002)) K kL_tintings_1 dL_tintings_7 ?_
    refine x_wsub (ws' := (wX0J cI cJ cZ cA V land there near worn trial fits ways joined)) [11, 12, 13, 14, 15, 16, 17, 0, 1, 2, 3, 4, 5, 6, 7, 8, 9, 10] rfl rfl ?_
    exact hX (-1000002) (fits, ways) _ _ hp dL_tintings_10
  · obtain ⟨o0, o1⟩ := u9
    refine x_wsub (ws' := (wX0J cI cJ cZ cA V land there near worn trial o0 o1 joined)) [11, 12, 13, 14, 15, 16, 17, 0, 1, 2, 3, 4, 5, 6, 7, 8, 9, 10] rfl rfl ?_
    exact hX r (o0, o1) _ _ h dL_tintings_5
set_option maxHeartbeats 4000000 in
set_option maxRecDepth 100000 in
theorem c0_L_tintings (l : Launch) (D : va_G) (cI cJ cZ cA : ClassId) (V : Nat → Nat) (p1 : Int32) (land : Nat → Int64) (there : Int32) (near : Nat → Int32) (worn : Nat → Int32) (trial : Nat → Int32) (fits : Nat → Int32) (ways : Nat → Int64) (joined : Nat → Nat → Int32) (P : Int64 → (Nat → Int32) → (Nat → Int64) → Prop) (h : q0_L_tintings p1 there near fits ways P) : xMl l yL_tintings wsL_tintings rm0_L_tintings D vwCl (xtys cI cJ cZ cA) (wX0J cI cJ cZ cA V land there near worn trial fits ways joined) [.ref (V 0), .int p1] (σ := (Nat → Int32) × (Nat → Int64)) (fun u => (wX0J cI cJ cZ cA V land there near worn trial u.1 u.2 joined)) (fun r u => P r u.1 u.2) := by
  refine xMlW_of (cc := cL_tintings) (maxL := 3) (hh := [(0, 5, 6, 19)]) (by decide) rfl (Nat.le_of_ble_eq_true rfl) ?_
  intro X K hX
  have K : xk X l rm0_L_tintings D vwCl (xtys cI cJ cZ cA) cL_tintings RL wsL_tintings 3 := K
  unfold q0_L_tintings at h
  refine x_aload_n (pc := 0) K dL_tintings_0 0 rfl rfl ?_
  refine x_iload_n (pc := 1) K dL_tintings_1 1 rfl rfl ?_
  refine x_callVl (pc := 2) (n := 1) K (c0_X0_tintings l D cI cJ cZ cA V p1 land there near worn trial fits ways _ h) rfl rfl gL_tintings_X0_tintings rfl (by decide +kernel) ⟨Nat.le_of_ble_eq_true rfl, Nat.le_of_ble_eq_true rfl⟩ rfl (av := [.int p1]) (b := V 0) (ci := 0) (q0 := 0) rfl rfl rfl (Nat.le_of_ble_eq_true rfl) [0, 1, 2, 3, 4, 5, 6] [7, 8, 9, 10, 11, 12, 13, 14, 15, 16, 17] (wr := (wJ cI cA (V 7) (fun k => V (k + 8)) joined)) rfl rfl rfl rfl (by decide) dL_tintings_2 ⟨Nat.le_of_ble_eq_true rfl, Nat.le_of_ble_eq_true rfl⟩ (fun r u9 h => ?_)
  obtain ⟨o0, o1⟩ := u9
  refine x_wsub (ws' := (wX0J cI cJ cZ cA V land there near worn trial o0 o1 joined)) [11, 12, 13, 14, 15, 16, 17, 0, 1, 2, 3, 4, 5, 6, 7, 8, 9, 10] rfl rfl ?_
  exact hX r (o0, o1) _ _ h dL_tintings_5
def q_L_tintingsByPairs (p1 : Int32) (near : Nat → Int32) (there : Int32) (joined : Nat → Nat → Int32) (P : Int64 → (Nat → Nat → Int32) → Prop) : Prop := q_X0_tintingsByPairs p1 near there joined (fun (r : Int64) (o0 : Nat → Nat → Int32) => P r o0) (fun E => (E = "java/lang/IllegalArgumentException" ∧ P (-1000002 : Int64) joined))
def q0_L_tintingsByPairs (p1 : Int32) (near : Nat → Int32) (there : Int32) (joined : Nat → Nat → Int32) (P : Int64 → (Nat → Nat → Int32) → Prop) : Prop := q_X0_tintingsByPairs p1 near there joined (fun (r : Int64) (o0 : Nat → Nat → Int32) => P r o0) (fun _ => False)
abbrev rm_L_tintingsByPairs : Room := { frames := 40, cells := 1, slots := 6, locals := 1100 }
abbrev rm0_L_tintingsByPairs : Room := { frames := 40, cells := 0, slots := 0, locals := 1100 }
theorem kL_tintingsByPairs_0 : Cond.classLink RL 19 "java/lang/IllegalArgumentException" ∈ wsL_tintingsByPairs := by decide +kernel
theorem kL_tintingsByPairs_1 : Cond.constantLong RL 71 (-1000002) ∈ wsL_tintingsByPairs := by decide +kernel
set_option maxHeartbeats 4000000 in
set_option maxRecDepth 100000 in
theorem c_L_tintingsByPairs (l : Launch) (D : va_G) (cI cJ cZ cA : ClassId) (hst : l.stackTraces = false) (V : Nat → Nat) (p1 : Int32) (land : Nat → Int64) (there : Int32) (near : Nat → Int32) (worn : Nat → Int32) (trial : Nat → Int32) (fits : Nat → Int32) (ways : Nat → Int64) (joined : Nat → Nat → Int32) (P : Int64 → (Nat → Nat → Int32) → Prop) (h : q_L_tintingsByPairs p1 near there joined P) : xHl l yL_tintingsByPairs wsL_tintingsByPairs rm_L_tintingsByPairs D vwCl (xtys cI cJ cZ cA) (wX0J cI cJ cZ cA V land there near worn trial fits ways joined) [.ref (V 0), .int p1] RX0 [(189, "there are not so many tints")] (σ := (Nat → Nat → Int32)) (fun u => (wX0J cI cJ cZ cA V land there near worn trial fits ways u)) (fun r u => P r u) 1 6 := by
  refine xHl_of (cc := cL_tintingsByPairs) (maxL := 3) (hh := [(0, 5, 6, 19)]) (by decide) rfl (Nat.le_of_ble_eq_true rfl) ?_
  intro X K hE ht hX
  have K : xk X l rm_L_tintingsByPairs D vwCl (xtys cI cJ cZ cA) cL_tintingsByPairs RL wsL_tintingsByPairs 3 := K
  unfold q_L_tintingsByPairs at h
  refine x_aload_n (pc := 0) K dL_tintingsByPairs_0 0 rfl rfl ?_
  refine x_iload_n (pc := 1) K dL_tintingsByPairs_1 1 rfl rfl ?_
  refine x_tcallVl (pc := 2) (n := 1) K hE (by decide) (c_X0_tintingsByPairs l D cI cJ cZ cA hst V p1 land there near worn trial fits ways joined _ _ h) rfl rfl gL_tintingsByPairs_X0_tintingsByPairs rfl (by decide +kernel) ⟨Nat.le_of_ble_eq_true rfl, Nat.le_of_ble_eq_true rfl⟩ rfl (av := [.int p1]) (b := V 0) (ci := 0) (q0 := 0) rfl rfl rfl (Nat.le_of_ble_eq_true rfl) [0, 1, 2, 3, 4, 5, 6, 7, 8, 9, 10, 11, 12, 13, 14, 15, 16, 17] [] (wr := []) rfl rfl rfl rfl (by decide) dL_tintingsByPairs_2 ⟨Nat.le_of_ble_eq_true rfl, Nat.le_of_ble_eq_true rfl⟩ (fun E hT => ?_) (fun r o0 h => ?_)
  · obtain ⟨rfl, hp⟩ := hT
    refine x_catch K hE ht [] (0, 5, 6, 19) [] rfl (fun z hz => absurd hz List.not_mem_nil) (by decide) (by decide) kL_tintingsByPairs_0 (by decide) (fun q => ?_)
    refine x_astore_n (lv' := [(0, .ref (V 0)), (1, .int p1), (2, .ref q)]) (pc := 6) K dL_tintingsByPairs_6 rfl (by decide) rfl ?_
    refine x_ldc2 (pc := 7) (v := (-1000002)) K kL_tintingsByPairs_1 dL_tintingsByPairs_7 ?_
    refine x_wsub (ws' := (wX0J cI cJ cZ cA V land there near worn trial fits ways joined)) [0, 1, 2, 3, 4, 5, 6, 7, 8, 9, 10, 11, 12, 13, 14, 15, 16, 17] rfl rfl ?_
    exact hX (-1000002) joined _ _ hp dL_tintingsByPairs_10
  · refine x_wsub (ws' := (wX0J cI cJ cZ cA V land there near worn trial fits ways o0)) [0, 1, 2, 3, 4, 5, 6, 7, 8, 9, 10, 11, 12, 13, 14, 15, 16, 17] rfl rfl ?_
    exact hX r o0 _ _ h dL_tintingsByPairs_5
set_option maxHeartbeats 4000000 in
set_option maxRecDepth 100000 in
theorem c0_L_tintingsByPairs (l : Launch) (D : va_G) (cI cJ cZ cA : ClassId) (V : Nat → Nat) (p1 : Int32) (land : Nat → Int64) (there : Int32) (near : Nat → Int32) (worn : Nat → Int32) (trial : Nat → Int32) (fits : Nat → Int32) (ways : Nat → Int64) (joined : Nat → Nat → Int32) (P : Int64 → (Nat → Nat → Int32) → Prop) (h : q0_L_tintingsByPairs p1 near there joined P) : xMl l yL_tintingsByPairs wsL_tintingsByPairs rm0_L_tintingsByPairs D vwCl (xtys cI cJ cZ cA) (wX0J cI cJ cZ cA V land there near worn trial fits ways joined) [.ref (V 0), .int p1] (σ := (Nat → Nat → Int32)) (fun u => (wX0J cI cJ cZ cA V land there near worn trial fits ways u)) (fun r u => P r u) := by
  refine xMlW_of (cc := cL_tintingsByPairs) (maxL := 3) (hh := [(0, 5, 6, 19)]) (by decide) rfl (Nat.le_of_ble_eq_true rfl) ?_
  intro X K hX
  have K : xk X l rm0_L_tintingsByPairs D vwCl (xtys cI cJ cZ cA) cL_tintingsByPairs RL wsL_tintingsByPairs 3 := K
  unfold q0_L_tintingsByPairs at h
  refine x_aload_n (pc := 0) K dL_tintingsByPairs_0 0 rfl rfl ?_
  refine x_iload_n (pc := 1) K dL_tintingsByPairs_1 1 rfl rfl ?_
  refine x_callVl (pc := 2) (n := 1) K (c0_X0_tintingsByPairs l D cI cJ cZ cA V p1 land there near worn trial fits ways joined _ h) rfl rfl gL_tintingsByPairs_X0_tintingsByPairs rfl (by decide +kernel) ⟨Nat.le_of_ble_eq_true rfl, Nat.le_of_ble_eq_true rfl⟩ rfl (av := [.int p1]) (b := V 0) (ci := 0) (q0 := 0) rfl rfl rfl (Nat.le_of_ble_eq_true rfl) [0, 1, 2, 3, 4, 5, 6, 7, 8, 9, 10, 11, 12, 13, 14, 15, 16, 17] [] (wr := []) rfl rfl rfl rfl (by decide) dL_tintingsByPairs_2 ⟨Nat.le_of_ble_eq_true rfl, Nat.le_of_ble_eq_true rfl⟩ (fun r o0 h => ?_)
  refine x_wsub (ws' := (wX0J cI cJ cZ cA V land there near worn trial fits ways o0)) [0, 1, 2, 3, 4, 5, 6, 7, 8, 9, 10, 11, 12, 13, 14, 15, 16, 17] rfl rfl ?_
  exact hX r o0 _ _ h dL_tintingsByPairs_5
