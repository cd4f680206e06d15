section
-- ===== PART A: goes FIRST, ahead of the names: the tables' words, and 'selects' of the private methods out of them =====
/-- a private method of a class that the tables say can be made, by its rows of tables_1 -/
def lw_okq (q : MethodName × Nat) : Prop := (q.1.cls ≠ "java/lang/invoke/MethodHandle" ∧ q.1.cls ≠ "java/lang/invoke/VarHandle") ∧ Cond.instantiable q.1.cls q.2 ∈ tables_1 ∧ Cond.privateMethod q.1 ∈ tables_1 ∧ Cond.instanceMethod q.1 ∈ tables_1
theorem lw_p0 : lw_okq (⟨"FourTints", "markSetsOfNeighbours", "()V"⟩, 8) := ⟨⟨by decide +kernel, by decide +kernel⟩, List.mem_of_getElem? (i := 15) (by decide +kernel), List.mem_of_getElem? (i := 99) (by decide +kernel), List.mem_of_getElem? (i := 100) (by decide +kernel)⟩
theorem lw_p1 : lw_okq (⟨"FourTints", "wearing", "(I)I"⟩, 8) := ⟨⟨by decide +kernel, by decide +kernel⟩, List.mem_of_getElem? (i := 15) (by decide +kernel), List.mem_of_getElem? (i := 110) (by decide +kernel), List.mem_of_getElem? (i := 111) (by decide +kernel)⟩
theorem lw_p2 : lw_okq (⟨"FourTints", "giveLeastFree", "(I)I"⟩, 8) := ⟨⟨by decide +kernel, by decide +kernel⟩, List.mem_of_getElem? (i := 15) (by decide +kernel), List.mem_of_getElem? (i := 126) (by decide +kernel), List.mem_of_getElem? (i := 127) (by decide +kernel)⟩
theorem lw_p3 : lw_okq (⟨"FourTints", "leastFreeBeside", "(I)I"⟩, 8) := ⟨⟨by decide +kernel, by decide +kernel⟩, List.mem_of_getElem? (i := 15) (by decide +kernel), List.mem_of_getElem? (i := 130) (by decide +kernel), List.mem_of_getElem? (i := 131) (by decide +kernel)⟩
theorem lw_p4 : lw_okq (⟨"FourTints", "withNeighbours", "(I)I"⟩, 8) := ⟨⟨by decide +kernel, by decide +kernel⟩, List.mem_of_getElem? (i := 15) (by decide +kernel), List.mem_of_getElem? (i := 134) (by decide +kernel), List.mem_of_getElem? (i := 135) (by decide +kernel)⟩
theorem lw_p5 : lw_okq (⟨"FourTints", "tryFewest", "()I"⟩, 8) := ⟨⟨by decide +kernel, by decide +kernel⟩, List.mem_of_getElem? (i := 15) (by decide +kernel), List.mem_of_getElem? (i := 142) (by decide +kernel), List.mem_of_getElem? (i := 143) (by decide +kernel)⟩
theorem lw_p6 : lw_okq (⟨"java/lang/Throwable", "fillInStackTrace", "(I)Ljava/lang/Throwable;"⟩, 6) := ⟨⟨by decide +kernel, by decide +kernel⟩, List.mem_of_getElem? (i := 206) (by decide +kernel), List.mem_of_getElem? (i := 204) (by decide +kernel), List.mem_of_getElem? (i := 205) (by decide +kernel)⟩
theorem lw_p7 : lw_okq (⟨"FourTints", "ownerOf", "(J)I"⟩, 8) := ⟨⟨by decide +kernel, by decide +kernel⟩, List.mem_of_getElem? (i := 15) (by decide +kernel), List.mem_of_getElem? (i := 258) (by decide +kernel), List.mem_of_getElem? (i := 259) (by decide +kernel)⟩
theorem lw_p8 : lw_okq (⟨"FourTints", "cover", "(JI)V"⟩, 8) := ⟨⟨by decide +kernel, by decide +kernel⟩, List.mem_of_getElem? (i := 15) (by decide +kernel), List.mem_of_getElem? (i := 262) (by decide +kernel), List.mem_of_getElem? (i := 263) (by decide +kernel)⟩
theorem lw_p9 : lw_okq (⟨"FourTints", "findNeighbours", "()V"⟩, 8) := ⟨⟨by decide +kernel, by decide +kernel⟩, List.mem_of_getElem? (i := 15) (by decide +kernel), List.mem_of_getElem? (i := 266) (by decide +kernel), List.mem_of_getElem? (i := 267) (by decide +kernel)⟩
theorem lw_p10 : lw_okq (⟨"FourTints", "thoseIn", "(J)I"⟩, 8) := ⟨⟨by decide +kernel, by decide +kernel⟩, List.mem_of_getElem? (i := 15) (by decide +kernel), List.mem_of_getElem? (i := 270) (by decide +kernel), List.mem_of_getElem? (i := 271) (by decide +kernel)⟩
theorem lw_p11 : lw_okq (⟨"FourTints", "cellsOf", "(I)J"⟩, 8) := ⟨⟨by decide +kernel, by decide +kernel⟩, List.mem_of_getElem? (i := 15) (by decide +kernel), List.mem_of_getElem? (i := 282) (by decide +kernel), List.mem_of_getElem? (i := 283) (by decide +kernel)⟩
theorem lw_p12 : lw_okq (⟨"FourTints", "checkTinted", "(I)V"⟩, 8) := ⟨⟨by decide +kernel, by decide +kernel⟩, List.mem_of_getElem? (i := 15) (by decide +kernel), List.mem_of_getElem? (i := 379) (by decide +kernel), List.mem_of_getElem? (i := 380) (by decide +kernel)⟩
theorem lw_p13 : lw_okq (⟨"FourTints", "chainOf", "(II)I"⟩, 8) := ⟨⟨by decide +kernel, by decide +kernel⟩, List.mem_of_getElem? (i := 15) (by decide +kernel), List.mem_of_getElem? (i := 399) (by decide +kernel), List.mem_of_getElem? (i := 400) (by decide +kernel)⟩
theorem lw_p14 : lw_okq (⟨"FourTints", "markSetsWithoutNeighbours", "()V"⟩, 8) := ⟨⟨by decide +kernel, by decide +kernel⟩, List.mem_of_getElem? (i := 15) (by decide +kernel), List.mem_of_getElem? (i := 421) (by decide +kernel), List.mem_of_getElem? (i := 422) (by decide +kernel)⟩
theorem lw_p15 : lw_okq (⟨"FourTints", "shareOutOneSet", "()V"⟩, 8) := ⟨⟨by decide +kernel, by decide +kernel⟩, List.mem_of_getElem? (i := 15) (by decide +kernel), List.mem_of_getElem? (i := 428) (by decide +kernel), List.mem_of_getElem? (i := 429) (by decide +kernel)⟩
def lw_privs_1 : List (MethodName × Nat) := [(⟨"FourTints", "markSetsOfNeighbours", "()V"⟩, 8), (⟨"FourTints", "wearing", "(I)I"⟩, 8), (⟨"FourTints", "giveLeastFree", "(I)I"⟩, 8), (⟨"FourTints", "leastFreeBeside", "(I)I"⟩, 8), (⟨"FourTints", "withNeighbours", "(I)I"⟩, 8), (⟨"FourTints", "tryFewest", "()I"⟩, 8), (⟨"java/lang/Throwable", "fillInStackTrace", "(I)Ljava/lang/Throwable;"⟩, 6), (⟨"FourTints", "ownerOf", "(J)I"⟩, 8), (⟨"FourTints", "cover", "(JI)V"⟩, 8), (⟨"FourTints", "findNeighbours", "()V"⟩, 8), (⟨"FourTints", "thoseIn", "(J)I"⟩, 8), (⟨"FourTints", "cellsOf", "(I)J"⟩, 8), (⟨"FourTints", "checkTinted", "(I)V"⟩, 8), (⟨"FourTints", "chainOf", "(II)I"⟩, 8), (⟨"FourTints", "markSetsWithoutNeighbours", "()V"⟩, 8), (⟨"FourTints", "shareOutOneSet", "()V"⟩, 8)]
theorem lw_r1 : ∀ q ∈ lw_privs_1, lw_okq q := List.forall_mem_cons.mpr ⟨lw_p0, List.forall_mem_cons.mpr ⟨lw_p1, List.forall_mem_cons.mpr ⟨lw_p2, List.forall_mem_cons.mpr ⟨lw_p3, List.forall_mem_cons.mpr ⟨lw_p4, List.forall_mem_cons.mpr ⟨lw_p5, List.forall_mem_cons.mpr ⟨lw_p6, List.forall_mem_cons.mpr ⟨lw_p7, List.forall_mem_cons.mpr ⟨lw_p8, List.forall_mem_cons.mpr ⟨lw_p9, List.forall_mem_cons.mpr ⟨lw_p10, List.forall_mem_cons.mpr ⟨lw_p11, List.forall_mem_cons.mpr ⟨lw_p12, List.forall_mem_cons.mpr ⟨lw_p13, List.forall_mem_cons.mpr ⟨lw_p14, List.forall_mem_cons.mpr ⟨lw_p15, fun _ h => absurd h List.not_mem_nil⟩⟩⟩⟩⟩⟩⟩⟩⟩⟩⟩⟩⟩⟩⟩⟩
theorem lw_p16 : lw_okq (⟨"FourTints", "shareOutFrom", "(IJ)V"⟩, 8) := ⟨⟨by decide +kernel, by decide +kernel⟩, List.mem_of_getElem? (i := 15) (by decide +kernel), List.mem_of_getElem? (i := 432) (by decide +kernel), List.mem_of_getElem? (i := 433) (by decide +kernel)⟩
theorem lw_p17 : lw_okq (⟨"FourTintsModel", "goes", "(ZZZ)Z"⟩, 8) := ⟨⟨by decide +kernel, by decide +kernel⟩, List.mem_of_getElem? (i := 464) (by decide +kernel), List.mem_of_getElem? (i := 512) (by decide +kernel), List.mem_of_getElem? (i := 513) (by decide +kernel)⟩
theorem lw_p18 : lw_okq (⟨"FourTintsModel", "paints", "(II)I"⟩, 8) := ⟨⟨by decide +kernel, by decide +kernel⟩, List.mem_of_getElem? (i := 464) (by decide +kernel), List.mem_of_getElem? (i := 516) (by decide +kernel), List.mem_of_getElem? (i := 517) (by decide +kernel)⟩
theorem lw_p19 : lw_okq (⟨"FourTintsModel", "looks", "()V"⟩, 8) := ⟨⟨by decide +kernel, by decide +kernel⟩, List.mem_of_getElem? (i := 464) (by decide +kernel), List.mem_of_getElem? (i := 532) (by decide +kernel), List.mem_of_getElem? (i := 533) (by decide +kernel)⟩
theorem lw_p20 : lw_okq (⟨"FourTintsModel", "told", "(I)I"⟩, 8) := ⟨⟨by decide +kernel, by decide +kernel⟩, List.mem_of_getElem? (i := 464) (by decide +kernel), List.mem_of_getElem? (i := 545) (by decide +kernel), List.mem_of_getElem? (i := 546) (by decide +kernel)⟩
theorem lw_p21 : lw_okq (⟨"FourTintsModel", "piecesOf", "(I)I"⟩, 8) := ⟨⟨by decide +kernel, by decide +kernel⟩, List.mem_of_getElem? (i := 464) (by decide +kernel), List.mem_of_getElem? (i := 557) (by decide +kernel), List.mem_of_getElem? (i := 558) (by decide +kernel)⟩
theorem lw_p22 : lw_okq (⟨"FourTintsModel", "areNear", "(IZ)Z"⟩, 8) := ⟨⟨by decide +kernel, by decide +kernel⟩, List.mem_of_getElem? (i := 464) (by decide +kernel), List.mem_of_getElem? (i := 596) (by decide +kernel), List.mem_of_getElem? (i := 597) (by decide +kernel)⟩
theorem lw_p23 : lw_okq (⟨"FourTintsModel", "inConflict", "()I"⟩, 8) := ⟨⟨by decide +kernel, by decide +kernel⟩, List.mem_of_getElem? (i := 464) (by decide +kernel), List.mem_of_getElem? (i := 612) (by decide +kernel), List.mem_of_getElem? (i := 613) (by decide +kernel)⟩
theorem lw_p24 : lw_okq (⟨"FourTintsModel", "isThere", "(I)Z"⟩, 8) := ⟨⟨by decide +kernel, by decide +kernel⟩, List.mem_of_getElem? (i := 464) (by decide +kernel), List.mem_of_getElem? (i := 620) (by decide +kernel), List.mem_of_getElem? (i := 621) (by decide +kernel)⟩
theorem lw_p25 : lw_okq (⟨"FourTintsModel", "least", "(I)I"⟩, 8) := ⟨⟨by decide +kernel, by decide +kernel⟩, List.mem_of_getElem? (i := 464) (by decide +kernel), List.mem_of_getElem? (i := 628) (by decide +kernel), List.mem_of_getElem? (i := 629) (by decide +kernel)⟩
theorem lw_p26 : lw_okq (⟨"FourTintsModel", "isChain", "(II)Z"⟩, 8) := ⟨⟨by decide +kernel, by decide +kernel⟩, List.mem_of_getElem? (i := 464) (by decide +kernel), List.mem_of_getElem? (i := 636) (by decide +kernel), List.mem_of_getElem? (i := 637) (by decide +kernel)⟩
theorem lw_p27 : lw_okq (⟨"FourTintsModel", "links", "(II)I"⟩, 8) := ⟨⟨by decide +kernel, by decide +kernel⟩, List.mem_of_getElem? (i := 464) (by decide +kernel), List.mem_of_getElem? (i := 640) (by decide +kernel), List.mem_of_getElem? (i := 641) (by decide +kernel)⟩
theorem lw_p28 : lw_okq (⟨"FourTintsModel", "fewest", "()I"⟩, 8) := ⟨⟨by decide +kernel, by decide +kernel⟩, List.mem_of_getElem? (i := 464) (by decide +kernel), List.mem_of_getElem? (i := 656) (by decide +kernel), List.mem_of_getElem? (i := 657) (by decide +kernel)⟩
theorem lw_p29 : lw_okq (⟨"FourTintsModel", "begins", "()V"⟩, 8) := ⟨⟨by decide +kernel, by decide +kernel⟩, List.mem_of_getElem? (i := 464) (by decide +kernel), List.mem_of_getElem? (i := 660) (by decide +kernel), List.mem_of_getElem? (i := 661) (by decide +kernel)⟩
theorem lw_p30 : lw_okq (⟨"FourTintsModel", "adds", "()V"⟩, 8) := ⟨⟨by decide +kernel, by decide +kernel⟩, List.mem_of_getElem? (i := 464) (by decide +kernel), List.mem_of_getElem? (i := 664) (by decide +kernel), List.mem_of_getElem? (i := 665) (by decide +kernel)⟩
theorem lw_p31 : lw_okq (⟨"FourTintsModel", "next", "(II)I"⟩, 8) := ⟨⟨by decide +kernel, by decide +kernel⟩, List.mem_of_getElem? (i := 464) (by decide +kernel), List.mem_of_getElem? (i := 672) (by decide +kernel), List.mem_of_getElem? (i := 673) (by decide +kernel)⟩
def lw_privs_2 : List (MethodName × Nat) := [(⟨"FourTints", "shareOutFrom", "(IJ)V"⟩, 8), (⟨"FourTintsModel", "goes", "(ZZZ)Z"⟩, 8), (⟨"FourTintsModel", "paints", "(II)I"⟩, 8), (⟨"FourTintsModel", "looks", "()V"⟩, 8), (⟨"FourTintsModel", "told", "(I)I"⟩, 8), (⟨"FourTintsModel", "piecesOf", "(I)I"⟩, 8), (⟨"FourTintsModel", "areNear", "(IZ)Z"⟩, 8), (⟨"FourTintsModel", "inConflict", "()I"⟩, 8), (⟨"FourTintsModel", "isThere", "(I)Z"⟩, 8), (⟨"FourTintsModel", "least", "(I)I"⟩, 8), (⟨"FourTintsModel", "isChain", "(II)Z"⟩, 8), (⟨"FourTintsModel", "links", "(II)I"⟩, 8), (⟨"FourTintsModel", "fewest", "()I"⟩, 8), (⟨"FourTintsModel", "begins", "()V"⟩, 8), (⟨"FourTintsModel", "adds", "()V"⟩, 8), (⟨"FourTintsModel", "next", "(II)I"⟩, 8)]
theorem lw_r2 : ∀ q ∈ lw_privs_2, lw_okq q := List.forall_mem_cons.mpr ⟨lw_p16, List.forall_mem_cons.mpr ⟨lw_p17, List.forall_mem_cons.mpr ⟨lw_p18, List.forall_mem_cons.mpr ⟨lw_p19, List.forall_mem_cons.mpr ⟨lw_p20, List.forall_mem_cons.mpr ⟨lw_p21, List.forall_mem_cons.mpr ⟨lw_p22, List.forall_mem_cons.mpr ⟨lw_p23, List.forall_mem_cons.mpr ⟨lw_p24, List.forall_mem_cons.mpr ⟨lw_p25, List.forall_mem_cons.mpr ⟨lw_p26, List.forall_mem_cons.mpr ⟨lw_p27, List.forall_mem_cons.mpr ⟨lw_p28, List.forall_mem_cons.mpr ⟨lw_p29, List.forall_mem_cons.mpr ⟨lw_p30, List.forall_mem_cons.mpr ⟨lw_p31, fun _ h => absurd h List.not_mem_nil⟩⟩⟩⟩⟩⟩⟩⟩⟩⟩⟩⟩⟩⟩⟩⟩
theorem lw_p32 : lw_okq (⟨"FourTintsModel", "isApart", "(I)Z"⟩, 8) := ⟨⟨by decide +kernel, by decide +kernel⟩, List.mem_of_getElem? (i := 464) (by decide +kernel), List.mem_of_getElem? (i := 676) (by decide +kernel), List.mem_of_getElem? (i := 677) (by decide +kernel)⟩
theorem lw_p33 : lw_okq (⟨"FourTintsModel", "count", "(I)J"⟩, 8) := ⟨⟨by decide +kernel, by decide +kernel⟩, List.mem_of_getElem? (i := 464) (by decide +kernel), List.mem_of_getElem? (i := 684) (by decide +kernel), List.mem_of_getElem? (i := 685) (by decide +kernel)⟩
def lw_privs_3 : List (MethodName × Nat) := [(⟨"FourTintsModel", "isApart", "(I)Z"⟩, 8), (⟨"FourTintsModel", "count", "(I)J"⟩, 8)]
theorem lw_r3 : ∀ q ∈ lw_privs_3, lw_okq q := List.forall_mem_cons.mpr ⟨lw_p32, List.forall_mem_cons.mpr ⟨lw_p33, fun _ h => absurd h List.not_mem_nil⟩⟩
def lw_privs : List (MethodName × Nat) := lw_privs_1 ++ (lw_privs_2 ++ (lw_privs_3))
def lw_tbl : List Cond := k2_sels lw_privs ++ tables_1
theorem lw_privs_ok : ∀ q ∈ lw_privs, lw_okq q := by
  show ∀ q ∈ lw_privs_1 ++ (lw_privs_2 ++ (lw_privs_3)), lw_okq q
  exact List.forall_mem_append.mpr ⟨lw_r1, List.forall_mem_append.mpr ⟨lw_r2, lw_r3⟩⟩
end
section
/-! ===== BEGIN words of one list among another's, by their places ===== -/
theorem goodIn_r {big : List Cond} (ws : List Cond) (ps : List Nat) (hp : ws = ps.filterMap (fun i => big[i]?)) (h : ws.all goodWord = true) : GoodIn big ws := by
  intro w hw
  have h1 := List.all_eq_true.mp h w hw
  rw [hp] at hw
  obtain ⟨i, -, hi⟩ := List.mem_filterMap.mp hw
  have hm : w ∈ big := by first | exact List.mem_of_getElem? hi | exact List.getElem?_mem hi
  exact ⟨hm, good_of_word h1⟩
theorem goodIn_app {big a b : List Cond} (ha : GoodIn big a) (hb : GoodIn big b) : GoodIn big (a ++ b) := fun w h => (List.mem_append.mp h).elim (ha w) (hb w)
theorem goodIn_ca {big a b : List Cond} {c : Cond} (ha : GoodIn big (c :: a)) (hb : GoodIn big b) : GoodIn big (c :: (a ++ b)) := fun w h => (List.mem_cons.mp h).elim (fun e => ha w (List.mem_cons.mpr (Or.inl e))) (fun h => (List.mem_append.mp h).elim (fun h => ha w (List.mem_cons.mpr (Or.inr h))) (hb w))
theorem goodIn_sub {big ws : List Cond} (hm : ∀ w ∈ ws, w ∈ big) (h : ws.all goodWord = true) : GoodIn big ws := fun w hw => ⟨hm w hw, good_of_word (List.all_eq_true.mp h w hw)⟩
/-! ===== END ===== -/

/-! ===== BEGIN new T[n][m]: the outer array a place, the inner ones among the pooled ===== -/
/-- f, but v at every address of l -/
def vr_up {α : Type} (f : Nat → α) (l : List Nat) (v : α) : Nat → α := fun a => if a ∈ l then v else f a
theorem vr_up_in {α : Type} {f : Nat → α} {l : List Nat} {v : α} {a : Nat} (h : a ∈ l) : vr_up f l v a = v := if_pos h
theorem vr_up_ne {α : Type} {f : Nat → α} {l : List Nat} {v : α} {a : Nat} (h : a ∉ l) : vr_up f l v a = f a := if_neg h
theorem vr_rows {L l : List Nat} {f : Nat → va_E} {e : va_E} (h : ∀ a, a ∈ l → a ∉ L) : va_pl L f ++ l.map (fun a => (a, e)) = va_pl (L ++ l) (vr_up f l e) := by
  unfold va_pl
  rw [List.map_append]
  congr 1
  · apply List.map_congr_left
    intro a ha
    rw [vr_up_ne (fun q => h a q ha)]
  · apply List.map_congr_left
    intro a ha
    rw [vr_up_in ha]
theorem vr_lay {X rows : va_W} {x : Nat × va_E} {pl : va_W} {D : va_G} {cl : List vw_C} {H : Heap} (hP : va_P D cl (((X ++ pl) ++ [x]) ++ rows) H) : va_P D cl ((X ++ [x]) ++ (pl ++ rows)) H := by
  rw [List.append_assoc (X ++ pl)] at hP
  have h := va_P.swap hP
  rw [← List.append_assoc X] at h
  have h2 := va_P.swap h
  rw [List.append_assoc (X ++ [x])] at h2
  exact h2
theorem vr_layD {X rows : va_W} {x : Nat × va_E} {pl : va_W} {A : Nat → Prop} (hD : va_D A (((X ++ pl) ++ [x]) ++ rows)) : va_D A ((X ++ [x]) ++ (pl ++ rows)) := by
  rw [List.append_assoc (X ++ pl)] at hD
  have h := va_D.swap hD
  rw [← List.append_assoc X] at h
  have h2 := va_D.swap h
  rw [List.append_assoc (X ++ [x])] at h2
  exact h2
theorem vr_outer (c : ClassId) (N h0 : Nat) : ∀ i : Nat, Jvm.Free.Multi.outerC c N h0 i = arrV c N (fun j => va_rf (if j < i then some (h0 + 1 + j) else none))
  | 0 => by
    show ({ cls := c, slots := Array.replicate N .null, vm := .none } : Cell) = _
    rw [arrV_new]
    refine congrArg (arrV c N) (funext fun j => ?_)
    simp [va_rf]
  | i + 1 => by
    show (Jvm.Free.Multi.outerC c N h0 i).setSlot i (.ref (h0 + 1 + i)) = _
    rw [vr_outer c N h0 i, arrV_store]
    refine congrArg (arrV c N) (funext fun j => ?_)
    by_cases e : j = i
    · subst e
      simp [updV, va_rf]
    · by_cases h : j < i
      · simp [updV, e, h, Nat.lt_succ_of_lt h]
      · simp [updV, e, h, show ¬ j < i + 1 by omega]
section VGM
variable {p : Program} {l : Launch} {e : Env} {R : Room} {s : State} {m : MethodId} {args : Array Value} {below : List Frame} {meth : Method} {c : Code} {H : Heap} {locs : List Loc} {cells slots : Nat} {Q : State → Prop}
variable {cc : ByteArray} {pc : Nat} {ls : Array Slot} {rest : List Value} {D : va_G} {cl : List vw_C} {A : Nat → Prop} {a : Nat} {tys : List (ClassId × FieldType)} {ws : va_W} {H0 : Heap}
theorem va_mna {X : va_W} {L : List Nat} {f : Nat → va_E} {cc : ByteArray} (hexec : p.tables.exec = Jvm.exec) (hb : c.code = cc) {own : String} {index : Nat} {ty : FieldType} {cy : ClassId} (hown : s.vm.findClass own = some m.cls) (hclink : (Cond.classLink own index ("[" ++ (FieldType.array ty).toString)).before args s = true) (hover : (Cond.arrayOver (.array ty)).before args s = true) (harr : (Cond.arrayClass ty).before args s = true) (hcy : s.vm.findClass (FieldType.array ty).toString = some cy)
    (hK : va_K D cl tys s) (hP : va_P D cl (X ++ va_pl L f) H) (hD : va_D A (X ++ va_pl L f)) (hS : va_S A H0 H locs) (hA : ∀ q, H0.size ≤ q → A q) {n k : Int32} {N' K' : Nat} {z : vp_A} (hn : ¬ n < 0) (hk : ¬ k < 0) (hN : n.toNatClampNeg = N') (hM : k.toNatClampNeg = K')
    (hb1 : N' * 4 ≤ 536870912) (hb2 : K' * componentBytes ty ≤ 536870912) (hb3 : K' ≤ 536870912) (hdf : fits ty (defaultValue ty) = true) (hdd : (defaultValue ty).isDefault = true) (hcells : cells + (1 + N') ≤ R.cells) (hslots : slots + (N' + N' * K') ≤ R.slots) (hz : ∀ c : ClassId, Jvm.Free.Multi.innerC c K' (defaultValue ty) = vp_cell c z) (hdg : decode cc pc = .ok (.multianewarray index 2, 4))
    (kk : ∀ (q : Nat) (r : Nat → Nat) (cA : ClassId) (H1 : Heap), (∀ i j : Nat, i < N' → j < N' → r i = r j → i = j) → (∀ i : Nat, i < N' → r i ∉ L) → va_K D cl (tys ++ [(cA, .array ty)]) s →
      va_P D cl ((X ++ [(q, .inl (cA, N', .inr (.inr (.inr (.inr (fun i => if i < N' then some (r i) else none))))))]) ++ va_pl (L ++ (List.range N').map r) (vr_up f ((List.range N').map r) (.inl (cy, z)))) H1 → va_D A ((X ++ [(q, .inl (cA, N', .inr (.inr (.inr (.inr (fun i => if i < N' then some (r i) else none))))))]) ++ va_pl (L ++ (List.range N').map r) (vr_up f ((List.range N').map r) (.inl (cy, z)))) → va_S A H0 H1 locs →
      W p l e R s m args below meth c H1 locs (cells + 1 + N') (slots + N' + N' * K') Q (F0 m (pc + 4) ls (.ref q :: rest))) : W p l e R s m args below meth c H locs cells slots Q (F0 m pc ls (.int k :: .int n :: rest)) := by
  subst hN
  subst hM
  intro T hT Xs
  obtain ⟨vm₁, cA, comp, -, fA, fC, hO, -, X', step⟩ := Xs.multianewarray2F hexec hown hclink hover harr (g := F0 m pc ls (.int k :: .int n :: rest)) rfl (by rw [hb]; exact hdg) rfl hn hk hb1 hb2 hb3 hdf hdd hcells hslots
  have ec : some cy = some comp := hcy.symm.trans fC
  cases ec
  generalize hF : Jvm.Free.Multi.fill (T.setVm vm₁) cA cy n.toNatClampNeg k.toNatClampNeg (defaultValue ty) n.toNatClampNeg = F at X' step
  have hTh : (T.setVm vm₁).heap = H := hT
  obtain ⟨f1, f2, -, -⟩ := Jvm.Free.Multi.fill_facts (T.setVm vm₁) cA cy n.toNatClampNeg k.toNatClampNeg (defaultValue ty) n.toNatClampNeg
  rw [hF, hTh] at f1 f2
  have hold : ∀ x : Nat, x < H.size → F.heap[x]? = H[x]? := fun x hx => by
    have := Jvm.Free.Multi.fill_old (T.setVm vm₁) cA cy n.toNatClampNeg k.toNatClampNeg (defaultValue ty) (a := x) (by rw [hTh]; exact hx) n.toNatClampNeg
    rw [hF, hTh] at this
    exact this
  have hrow : ∀ j : Nat, j < n.toNatClampNeg → F.heap[H.size + 1 + j]? = some (vp_cell cy z) := fun j hj => by
    have := Jvm.Free.Multi.fill_inner (T.setVm vm₁) cA cy n.toNatClampNeg k.toNatClampNeg (defaultValue ty) n.toNatClampNeg j hj
    rw [hF, hTh, hz] at this
    exact this
  have hout : Jvm.Free.Multi.outerC cA n.toNatClampNeg H.size n.toNatClampNeg = vp_cell cA (n.toNatClampNeg, .inr (.inr (.inr (.inr (fun i => if i < n.toNatClampNeg then some (H.size + 1 + i) else none))))) := by
    rw [vp_cell_q]
    exact vr_outer cA n.toNatClampNeg H.size n.toNatClampNeg
  rw [hout] at f2
  have hlt : ∀ a, a ∈ L → a < H.size := fun a ha => by
    obtain ⟨k9, hk9⟩ := va_pl_get (X := X) (f := f) ha
    exact (hP k9 _ hk9).lt
  have hnl : ∀ i : Nat, i < n.toNatClampNeg → H.size + 1 + i ∉ L := fun i _ h => by
    have := hlt _ h
    omega
  have hnm : ∀ a, a ∈ (List.range n.toNatClampNeg).map (fun i => H.size + 1 + i) → a ∉ L := fun a ha h => by
    obtain ⟨i, -, rfl⟩ := List.mem_map.mp ha
    have := hlt _ h
    omega
  have hP0 : va_P D cl (X ++ va_pl L f) F.heap := hP.kept (fun k9 x hx => hold x.1 ((hP k9 x hx).lt))
  have hP1 : va_P D cl ((X ++ va_pl L f) ++ [(H.size, .inl (cA, n.toNatClampNeg, .inr (.inr (.inr (.inr (fun i => if i < n.toNatClampNeg then some (H.size + 1 + i) else none))))))]) F.heap := hP0.app (fun k9 x hx => by
    have h0 : k9 < 1 := (List.getElem?_eq_some_iff.mp hx).1
    rw [show k9 = 0 by omega] at hx
    cases hx
    exact f2)
  have hP2 : va_P D cl (((X ++ va_pl L f) ++ [(H.size, .inl (cA, n.toNatClampNeg, .inr (.inr (.inr (.inr (fun i => if i < n.toNatClampNeg then some (H.size + 1 + i) else none))))))]) ++ ((List.range n.toNatClampNeg).map (fun i => H.size + 1 + i)).map (fun a => (a, .inl (cy, z)))) F.heap := hP1.app (fun k9 x hx => by
    obtain ⟨a, ha, rfl⟩ := List.mem_map.mp (List.mem_of_getElem? hx)
    obtain ⟨i, hi, rfl⟩ := List.mem_map.mp ha
    exact hrow i (List.mem_range.mp hi))
  have hD2 : va_D A (((X ++ va_pl L f) ++ [(H.size, .inl (cA, n.toNatClampNeg, .inr (.inr (.inr (.inr (fun i => if i < n.toNatClampNeg then some (H.size + 1 + i) else none))))))]) ++ ((List.range n.toNatClampNeg).map (fun i => H.size + 1 + i)).map (fun a => (a, .inl (cy, z)))) := by
    have hD1 := hD.push (e := .inl (cA, n.toNatClampNeg, .inr (.inr (.inr (.inr (fun i => if i < n.toNatClampNeg then some (H.size + 1 + i) else none)))))) hP rfl (hA _ hS.1)
    generalize hW1 : (X ++ va_pl L f) ++ [(H.size, .inl (cA, n.toNatClampNeg, .inr (.inr (.inr (.inr (fun i => if i < n.toNatClampNeg then some (H.size + 1 + i) else none))))))] = W1 at hD1 hP1 ⊢
    have hle : ∀ (k9 : Nat) (x : Nat × va_E), W1[k9]? = some x → x.1 ≤ H.size := fun k9 x hx => by
      rw [← hW1] at hx
      by_cases hl : k9 < (X ++ va_pl L f).length
      · rw [List.getElem?_append_left hl] at hx
        exact Nat.le_of_lt ((hP k9 x hx).lt)
      · rw [List.getElem?_append_right (by omega)] at hx
        have h0 : k9 - (X ++ va_pl L f).length < 1 := (List.getElem?_eq_some_iff.mp hx).1
        rw [show k9 - (X ++ va_pl L f).length = 0 by omega] at hx
        cases hx
        exact Nat.le_refl _
    have hr : ∀ (k9 : Nat) (x : Nat × va_E), (((List.range n.toNatClampNeg).map (fun i => H.size + 1 + i)).map (fun a => ((a, .inl (cy, z)) : Nat × va_E)))[k9]? = some x → x.1 = H.size + 1 + k9 := fun k9 x hx => by
      rw [List.getElem?_map, List.getElem?_map] at hx
      by_cases h9 : k9 < n.toNatClampNeg
      · rw [List.getElem?_range h9] at hx
        cases hx
        rfl
      · have hn0 : (List.range n.toNatClampNeg)[k9]? = none := List.getElem?_eq_none (by rw [List.length_range]; omega)
        rw [hn0] at hx
        cases hx
    refine ⟨fun i j x y hi hj hxy => ?_, fun k9 x hx => ?_⟩
    · by_cases h1 : i < W1.length <;> by_cases h2 : j < W1.length
      · rw [List.getElem?_append_left h1] at hi
        rw [List.getElem?_append_left h2] at hj
        exact hD1.1 i j x y hi hj hxy
      · rw [List.getElem?_append_left h1] at hi
        rw [List.getElem?_append_right (by omega)] at hj
        have := hle _ _ hi
        have := hr _ _ hj
        omega
      · rw [List.getElem?_append_right (by omega)] at hi
        rw [List.getElem?_append_left h2] at hj
        have := hle _ _ hj
        have := hr _ _ hi
        omega
      · rw [List.getElem?_append_right (by omega)] at hi hj
        have := hr _ _ hi
        have := hr _ _ hj
        omega
    · by_cases h1 : k9 < W1.length
      · rw [List.getElem?_append_left h1] at hx
        exact hD1.2 k9 x hx
      · rw [List.getElem?_append_right (by omega)] at hx
        have := hr _ _ hx
        exact hA _ (by have := hS.1; omega)
  have hAr : ArrOfT s cA (.array ty) := fun N9 z9 => by
    obtain ⟨-, k9, hk9, cm9, hkk9⟩ := (hO 0 0 0).1
    exact ⟨(fun q hq => by cases hq), k9, hk9, cm9, hkk9⟩
  have hK2 : va_K D cl (tys ++ [(cA, .array ty)]) s := ⟨hK.1, fun k9 x hx => by
    by_cases hl : k9 < tys.length
    · rw [List.getElem?_append_left hl] at hx
      exact hK.2 k9 x hx
    · rw [List.getElem?_append_right (by omega)] at hx
      have h0 : k9 - tys.length < 1 := (List.getElem?_eq_some_iff.mp hx).1
      rw [show k9 - tys.length = 0 by omega] at hx
      cases hx
      exact ⟨hAr, fA⟩⟩
  obtain ⟨t, a1, b1⟩ := kk H.size (fun i => H.size + 1 + i) cA F.heap (fun i j _ _ h => by have h9 : H.size + 1 + i = H.size + 1 + j := h; omega) hnl hK2 (by rw [← vr_rows hnm]; exact vr_lay hP2) (by rw [← vr_rows hnm]; exact vr_layD hD2) ⟨by rw [f1]; have := hS.1; omega, fun x h1 h2 => (hold x (Nat.lt_of_lt_of_le h1 hS.1)).trans (hS.2.1 x h1 h2), hS.2.2⟩ F rfl X'
  refine ⟨t, step t ?_, b1⟩
  have e : T.heap.size = H.size := by rw [hT]
  rw [e]
  exact a1
end VGM
/-! ===== END ===== -/

/-! ===== BEGIN exceptions that leave a method, and their catching by the caller (launches without stack traces) ===== -/
section VXA
/-! The laws vx_back, vx_callV, vx_callS, vx_callSW, vx_throw0, vx_throwS follow proofs of the library, with one case more: JvmDerived/Free/Laws.lean (Back.of_free), Shelf42/LK1.lean (callV, callS), Shelf/KitTraced.lean (throwNew0V, throwNewS). -/
/-- where a method has thrown q: the class by its name, the cell, what was written, the world -/
def vx_T (XC : String → State → State → Prop) (st : State) (q : Addr) (t : State) (mc ms : Nat) (free : Addr → Prop) : Prop :=
  ∃ (E : String) (ce : Cell) (L : List Loc), XC E st t ∧ t.heap[q]? = some ce ∧ ce.vm = .none ∧ st.vm.findClass E = some ce.cls ∧ st.WarmedH t.vm ∧ st.sameButNew ({ t with vm := st.vm } : State) L mc ms ∧ ∀ z ∈ L, free z.base
def vx_Q (Qc : Array Value → State → Outcome → State → Prop) (XC : String → State → State → Prop) (mc ms : Nat) (free : Addr → Prop) : Array Value → State → Outcome → State → Prop := fun a st o t =>
  (Qc a st o t ∧ ∃ L, FrameEnd st o t L mc ms ∧ ∀ q ∈ L, free q.base) ∨ ∃ q, o = .threw q ∧ vx_T XC st q t mc ms free
/-- a callee that returns or throws -/
def vx_Met (l : Launch) (y : MethodName) (ws : List Cond) (rm : Room) (Pc : Array Value → State → Prop) (Qc : Array Value → State → Outcome → State → Prop) (XC : String → State → State → Prop) (mc ms : Nat) (free : Addr → Prop) : Prop :=
  MetFree l y (headSpec ws rm) Pc (fun _ _ _ _ _ => True) (vx_Q Qc XC mc ms free)
def vx_Post (XC : String → State → State → Prop) (mc ms : Nat) (free : Addr → Prop) : Pt → Array Value → Addr → Pt → Prop := fun A a q B =>
  ∃ (g : JFrame) (mk : MethodId) (t : State) (L : List Loc) (E : String) (ce : Cell), B.U.heap = t.heap ∧ B.U.vm = t.vm ∧ XC E (A.U.calling g mk a) t ∧ t.heap[q]? = some ce ∧ ce.vm = .none ∧ A.U.vm.findClass E = some ce.cls ∧ B.locs = A.locs ++ L ∧ (∀ z ∈ L, free z.base) ∧ B.cells = A.cells + mc ∧ B.slots = A.slots + ms
def vx_Back (l : Launch) (R : Room) (p : Program) (e : Env) (below : List Frame) (s : State) (sargs : Array Value) (y : MethodName) (len W9 : Nat)
    (Pre : Pt → Array Value → Prop) (Post : Pt → Array Value → Option Value → Pt → Prop) (PostX : Pt → Array Value → Addr → Pt → Prop) : Prop :=
  ∀ (m : MethodId) (meth : Method) (c : Code) (A : Pt) (g : JFrame) (ig : Instr) (mk : MethodId) (a : Array Value),
    Stand p l e R s m sargs below meth c A.U A.locs A.cells A.slots → g.method = m → g.locals.size = c.maxLocals → decode c.code g.pc = .ok (ig, len) →
    2 * g.monitorRoom + (g.stack.map fun v => v.category).sum ≤ W9 → A.U.methodNamed? y = some mk → Pre A a →
    (∃ (v : Option Value) (B : Pt), Stand p l e R s m sargs below meth c B.U B.locs B.cells B.slots ∧ Post A a v B ∧
      Steps p.tables e below (doInvoke e (A.U.setTop g) [] mk a).1 (B.U.setTop { g with pc := g.pc + len, stack := v.toList ++ g.stack })) ∨
    (∃ (q : Addr) (B : Pt), Stand p l e R s m sargs below meth c B.U B.locs B.cells B.slots ∧ PostX A a q B ∧
      Steps p.tables e below (doInvoke e (A.U.setTop g) [] mk a).1 ((B.U.setTop g).pushFrame (.throwing q)))
section Payer
variable {l : Launch} {R : Room} {p : Program} {e : Env} {below : List Frame} {s : State} {sargs : Array Value} {y : MethodName} {len W9 : Nat}
theorem vx_back {ws : List Cond} {rm : Room} {Pc : Array Value → State → Prop} {Qc : Array Value → State → Outcome → State → Prop} {XC : String → State → State → Prop} {mc ms : Nat} {free : Addr → Prop} {bytes : ByteArray} {maxL : Nat} {ret : Option FieldType}
    (hM : vx_Met l y ws rm Pc Qc XC mc ms free) (hblind : FrameBlind Pc) (hrc : rm.cells = mc) (hrs : rm.slots = ms)
    (hframes : rm.frames + 1 ≤ R.frames) (hlocals : W9 + (maxL + 11) + rm.locals ≤ R.locals)
    (hws : ∀ w ∈ ws, ∀ a' U, s.WarmedH U.vm → w.before a' U = true) (hcode : Cond.code y bytes maxL ret ∈ ws) (hinit : ∀ a' U, s.WarmedH U.vm → (Cond.initialized y.cls).before a' U = true) :
    vx_Back l R p e below s sargs y len W9 (PreOf R mc ms Pc) (PostOf Qc mc ms free) (vx_Post XC mc ms free) := by
  intro m meth c A g ig mk a X hg hsize hdg hW hn hp
  have h1 : (headSpec ws rm).pre.before a A.U = true := atoms_intro fun w hw => hws w hw _ _ X.warmed
  have h2 : (Cond.code y bytes maxL ret).before a A.U = true := hws _ hcode _ _ X.warmed
  have h3 : (Cond.initialized y.cls).before a A.U = true := hinit _ _ X.warmed
  have h4 : A.cells + (headSpec ws rm).room.cells ≤ R.cells := by rw [show (headSpec ws rm).room.cells = mc from hrc]; exact hp.1
  have h5 : A.slots + (headSpec ws rm).room.slots ≤ R.slots := by rw [show (headSpec ws rm).room.slots = ms from hrs]; exact hp.2.1
  have hPc : Pc a (A.U.calling g mk a) := hblind _ _ _ _ hp.2.2
  obtain ⟨U, Ls, c0, s0⟩ := A
  dsimp only [Pt.U, Pt.locs, Pt.cells, Pt.slots] at h1 h2 h3 h4 h5 X hn hPc ⊢
  obtain ⟨methY, cY, hmY, hcY, -, hlY, -, -, -, -⟩ := Cond.code_spec hn h2
  obtain ⟨kY, hkY, -⟩ := className_of_methodNamed hn
  have hinitY : kY.init = .initialized := Cond.initialized_spec (findClass_of_methodNamed hn) hkY h3
  have h : At U g.method c below := by rw [hg]; exact X.here
  have hlocals9 : W9 + (maxL + 11) + (headSpec ws rm).room.locals ≤ R.locals := hlocals
  have happ : (headSpec ws rm).appliesLoose y e.platform (U.calling g mk a) = true :=
    Spec.appliesLoose_calling (g := g) h hdg hn hkY hinitY
      (X.room_calling (g := g) (R' := (headSpec ws rm).room) hsize hmY hcY hframes (by rw [hlY]; omega) h4 h5) h1
  obtain ⟨mid, hmid⟩ := h.above
  have hfr : (U.setTop g).frames = (.java g :: mid) ++ below := by rw [State.frames_setTop' g h.top, hmid]; rfl
  obtain ⟨o, s₂, hsteps, -, hend, hq⟩ := Steps.callFree hM p X.admits X.cas X.clock (acts := []) hfr happ hPc trivial
  have hq' : vx_Q Qc XC mc ms free a (U.calling g mk a) o s₂ := hq
  rw [State.frames_setTop' g h.top] at hend
  obtain ⟨g₀, hg0⟩ := Option.isSome_iff_exists.mp h.top
  obtain ⟨r, hr⟩ := State.topJava?_eq_some.mp hg0
  have hr' : (({ U with heap := s₂.heap, slotsUsed := s₂.slotsUsed } : State).setVm s₂.vm).frames = .java g₀ :: r := hr
  rcases hq' with ⟨hqc, L, hfe, hL⟩ | ⟨q, rfl, E, ce, L, hx, hce, hcv, hcl, hW₂, hsm, hL⟩
  · obtain ⟨⟨v, rfl⟩, hW₂, e2, q2, q3, q4, q5, q6⟩ := id hfe
    have e3 : s₂ = ({ (U.calling g mk a).setFrames s₂.frames with heap := s₂.heap, slotsUsed := s₂.slotsUsed } : State).setVm s₂.vm := by
      have : s₂ = ({ s₂ with vm := (U.calling g mk a).vm } : State).setVm s₂.vm := rfl
      rw [e2] at this
      exact this
    obtain ⟨c₂, i₂, len₂, hc₂, hd₂, hf₂⟩ := hend
    have hW' : U.WarmedH s₂.vm := hW₂
    have hcc : c₂ = c := by
      have h1 : s₂.code? g.method = U.code? g.method := by
        rw [State.code?_eq, State.code?_eq, hW'.alike.method?]
      exact Option.some.inj (hc₂.symm.trans (h1.trans h.code))
    subst hcc
    have hlen : len₂ = len := by rw [hdg] at hd₂; cases hd₂; rfl
    subst hlen
    have hs₂ : s₂ = (({ U with heap := s₂.heap, slotsUsed := s₂.slotsUsed } : State).setVm s₂.vm).setTop { g with pc := g.pc + len₂, stack := v.toList ++ g.stack } := by
      refine e3.trans ?_
      rw [hf₂, State.calling_eq h.top, State.setFrames_setFrames, State.setTop_of_frames _ hr', hr]
      rfl
    have hsame : U.sameButNew ({ U with heap := s₂.heap, slotsUsed := s₂.slotsUsed } : State) L mc ms := by
      refine ⟨?_, q2, q3, q4, q5, q6⟩
      obtain ⟨t, ht, -⟩ := State.frames_cons hr
      show ({ U with heap := s₂.heap, slotsUsed := s₂.slotsUsed } : State) = { U.setFrames U.frames with heap := s₂.heap, slotsUsed := s₂.slotsUsed }
      rw [State.setFrames_self ht]
    subst hg
    refine Or.inl ⟨v, ⟨(({ U with heap := s₂.heap, slotsUsed := s₂.slotsUsed } : State).setVm s₂.vm), Ls ++ L, c0 + mc, s0 + ms⟩,
      ⟨X.admits, X.cas, X.clock, X.frames, X.room, X.hears, X.method, X.code, (X.here.setHeapUsed s₂.heap s₂.slotsUsed).setVm hW'.alike, X.tail, State.WarmedH.trans X.warmed hW', X.limits, X.bytes, X.same.trans (hsame.setVm s.vm)⟩,
      ⟨g, mk, s₂, L, rfl, rfl, hqc, rfl, hL, rfl, rfl⟩, ?_⟩
    show Steps p.tables e below _ ((({ U with heap := s₂.heap, slotsUsed := s₂.slotsUsed } : State).setVm s₂.vm).setTop { g with pc := g.pc + len₂, stack := v.toList ++ g.stack })
    rw [← hs₂]
    exact hsteps
  · obtain ⟨e2, q2, q3, q4, q5, q6⟩ := id hsm
    have e3 : s₂ = ({ (U.calling g mk a).setFrames s₂.frames with heap := s₂.heap, slotsUsed := s₂.slotsUsed } : State).setVm s₂.vm := by
      have : s₂ = ({ s₂ with vm := (U.calling g mk a).vm } : State).setVm s₂.vm := rfl
      rw [e2] at this
      exact this
    have hf₂ : s₂.frames = .throwing q :: .java g :: U.frames.tail := hend
    have hW' : U.WarmedH s₂.vm := hW₂
    have hs₂ : s₂ = ((({ U with heap := s₂.heap, slotsUsed := s₂.slotsUsed } : State).setVm s₂.vm).setTop g).pushFrame (.throwing q) := by
      refine e3.trans ?_
      rw [hf₂, State.calling_eq h.top, State.setFrames_setFrames, State.pushFrame, State.frames_setTop _ hr', State.setTop_of_frames _ hr', State.setFrames_setFrames, hr]
      rfl
    have hsame : U.sameButNew ({ U with heap := s₂.heap, slotsUsed := s₂.slotsUsed } : State) L mc ms := by
      refine ⟨?_, q2, q3, q4, q5, q6⟩
      obtain ⟨t, ht, -⟩ := State.frames_cons hr
      show ({ U with heap := s₂.heap, slotsUsed := s₂.slotsUsed } : State) = { U.setFrames U.frames with heap := s₂.heap, slotsUsed := s₂.slotsUsed }
      rw [State.setFrames_self ht]
    subst hg
    refine Or.inr ⟨q, ⟨(({ U with heap := s₂.heap, slotsUsed := s₂.slotsUsed } : State).setVm s₂.vm), Ls ++ L, c0 + mc, s0 + ms⟩,
      ⟨X.admits, X.cas, X.clock, X.frames, X.room, X.hears, X.method, X.code, (X.here.setHeapUsed s₂.heap s₂.slotsUsed).setVm hW'.alike, X.tail, State.WarmedH.trans X.warmed hW', X.limits, X.bytes, X.same.trans (hsame.setVm s.vm)⟩,
      ⟨g, mk, s₂, L, E, ce, rfl, rfl, hx, hce, hcv, hcl, rfl, hL, rfl, rfl⟩, ?_⟩
    show Steps p.tables e below _ (((({ U with heap := s₂.heap, slotsUsed := s₂.slotsUsed } : State).setVm s₂.vm).setTop g).pushFrame (.throwing q))
    rw [← hs₂]
    exact hsteps
end Payer
section Calls
variable {p : Program} {l : Launch} {e : Env} {R : Room} {s : State} {m : MethodId} {args : Array Value} {below : List Frame} {meth : Method} {c : Code} {T : State} {locs : List Loc} {cells slots : Nat}
theorem vx_callV (X : Stand p l e R s m args below meth c T locs cells slots) (hexec : p.tables.exec = Jvm.exec) {own C : String} {index : Nat} {y : MethodName} {bytes : ByteArray} {maxL : Nat} {ret : Option FieldType}
    (hown : s.vm.findClass own = some m.cls) (hlink : (Cond.methodLink own index y).before args s = true) (hinst : (Cond.instanceMethod y).before args s = true) (hsel : (Cond.selects C y y).before args s = true)
    (hcode : (Cond.code y bytes maxL ret).before args s = true) (hy : y.cls ≠ "java/lang/invoke/MethodHandle" ∧ y.cls ≠ "java/lang/invoke/VarHandle")
    {W9 : Nat} {Pre : Pt → Array Value → Prop} {Post : Pt → Array Value → Option Value → Pt → Prop} {PostX : Pt → Array Value → Addr → Pt → Prop} (hK : vx_Back l R p e below s args y 3 W9 Pre Post PostX)
    {b : Addr} {cellB : Cell} (hcell : T.heap[b]? = some cellB) (hobj : cellB.vm.isStatics = false) (hcls : s.vm.findClass C = some cellB.cls)
    {g : JFrame} (hg : g.method = m) (hsize : g.locals.size = c.maxLocals) {argsL rest : List Value} (hlen : ∀ sig, parseMethodDescriptor y.desc = some sig → argsL.length = sig.parameters.length)
    (hstack : g.stack = argsL.reverse ++ .ref b :: rest) (hW : 2 * g.monitorRoom + (rest.map fun v => v.category).sum ≤ W9) (hdg : decode c.code g.pc = .ok (.invokevirtual index, 3))
    (hpre : ∀ vm₁, s.WarmedH vm₁ → Pre ⟨T.setVm vm₁, locs, cells, slots⟩ (Value.ref b :: argsL).toArray) :
    (∃ (v : Option Value) (vm₁ : Vm) (B : Pt), s.WarmedH vm₁ ∧ Stand p l e R s m args below meth c B.U B.locs B.cells B.slots ∧ Post ⟨T.setVm vm₁, locs, cells, slots⟩ (Value.ref b :: argsL).toArray v B ∧
      ∀ target, Steps p.tables e below (B.U.setTop { g with pc := g.pc + 3, stack := v.toList ++ rest }) target → Steps p.tables e below (T.setTop g) target) ∨
    (∃ (q : Addr) (vm₁ : Vm) (B : Pt), s.WarmedH vm₁ ∧ Stand p l e R s m args below meth c B.U B.locs B.cells B.slots ∧ PostX ⟨T.setVm vm₁, locs, cells, slots⟩ (Value.ref b :: argsL).toArray q B ∧
      Steps p.tables e below (T.setTop g) ((B.U.setTop { g with stack := rest }).pushFrame (.throwing q))) := by
  obtain ⟨mk, methM, hnamed, hmethM, hstM, habM⟩ := Cond.instanceMethod_spec hinst
  obtain ⟨methM', cM, hmethM', -, -, -, -, -, -, hsigM⟩ := Cond.code_spec hnamed hcode
  cases hmethM.symm.trans hmethM'
  obtain ⟨c2, r2, m2, q1, q2, q3, q4, kP, hkP, hkPi⟩ := Cond.selects_spec hsel
  cases hcls.symm.trans q1
  cases (State.methodFound?_of_named hnamed hy).symm.trans q2
  cases hnamed.symm.trans q3
  have hselP : selectMethod e.platform s.vm cellB.cls mk = .method mk := by rw [Launch.admits_selectMethod X.admits]; exact q4
  obtain ⟨vm₁, X₁, hstep₁⟩ := X.invokevirtual hexec hown hlink hnamed hmethM hstM hkP hkPi hy (a := b) (cell := cellB) hcell
    (fun z h => by rw [h] at hobj; cases hobj) hselP hmethM habM hkP hkPi (g := g) hg (argsL := argsL) (rest := rest) (hlen _ hsigM) hstack hdg
  rcases hK m meth c ⟨T.setVm vm₁, locs, cells, slots⟩ { g with stack := rest } (.invokevirtual index) mk (Value.ref b :: argsL).toArray X₁ hg hsize hdg hW (X₁.named hnamed) (hpre vm₁ X₁.warmed) with ⟨v, B, X', hpost, hsteps⟩ | ⟨q, B, X', hpost, hsteps⟩
  · exact Or.inl ⟨v, vm₁, B, X₁.warmed, X', hpost, fun target h => hstep₁ _ fun acts => by rw [doInvoke_state]; exact hsteps.trans h⟩
  · exact Or.inr ⟨q, vm₁, B, X₁.warmed, X', hpost, hstep₁ _ fun acts => by rw [doInvoke_state]; exact hsteps⟩
theorem vx_callS (X : Stand p l e R s m args below meth c T locs cells slots) (hexec : p.tables.exec = Jvm.exec) {own : String} {index : Nat} {y : MethodName} {bytes : ByteArray} {maxL : Nat} {ret : Option FieldType}
    (hown : s.vm.findClass own = some m.cls) (hlink : (Cond.methodLink own index y).before args s = true) (hstat : (Cond.static y).before args s = true) (hinit : (Cond.initialized y.cls).before args s = true)
    (hcode : (Cond.code y bytes maxL ret).before args s = true) (hy : y.cls ≠ "java/lang/invoke/MethodHandle" ∧ y.cls ≠ "java/lang/invoke/VarHandle")
    {W9 : Nat} {Pre : Pt → Array Value → Prop} {Post : Pt → Array Value → Option Value → Pt → Prop} {PostX : Pt → Array Value → Addr → Pt → Prop} (hK : vx_Back l R p e below s args y 3 W9 Pre Post PostX)
    {g : JFrame} (hg : g.method = m) (hsize : g.locals.size = c.maxLocals) {argsL rest : List Value} (hlen : ∀ sig, parseMethodDescriptor y.desc = some sig → argsL.length = sig.parameters.length)
    (hstack : g.stack = argsL.reverse ++ rest) (hW : 2 * g.monitorRoom + (rest.map fun v => v.category).sum ≤ W9) (hdg : decode c.code g.pc = .ok (.invokestatic index, 3))
    (hpre : ∀ vm₁, s.WarmedH vm₁ → Pre ⟨T.setVm vm₁, locs, cells, slots⟩ argsL.toArray) :
    (∃ (v : Option Value) (vm₁ : Vm) (B : Pt), s.WarmedH vm₁ ∧ Stand p l e R s m args below meth c B.U B.locs B.cells B.slots ∧ Post ⟨T.setVm vm₁, locs, cells, slots⟩ argsL.toArray v B ∧
      ∀ target, Steps p.tables e below (B.U.setTop { g with pc := g.pc + 3, stack := v.toList ++ rest }) target → Steps p.tables e below (T.setTop g) target) ∨
    (∃ (q : Addr) (vm₁ : Vm) (B : Pt), s.WarmedH vm₁ ∧ Stand p l e R s m args below meth c B.U B.locs B.cells B.slots ∧ PostX ⟨T.setVm vm₁, locs, cells, slots⟩ argsL.toArray q B ∧
      Steps p.tables e below (T.setTop g) ((B.U.setTop { g with stack := rest }).pushFrame (.throwing q))) := by
  obtain ⟨mk, hnamed⟩ := Cond.code_named hcode
  obtain ⟨methM, cM, hmethM, -, -, -, -, -, -, hsigM⟩ := Cond.code_spec hnamed hcode
  have hstatic : methM.isStatic = true := Cond.static_spec hnamed hmethM hstat
  obtain ⟨kP, hkP, -⟩ := className_of_methodNamed hnamed
  have hinitP : kP.init = .initialized := Cond.initialized_spec (findClass_of_methodNamed hnamed) hkP hinit
  obtain ⟨vm₁, X₁, hstep₁⟩ := X.invokestatic hexec hown hlink hnamed hmethM hstatic hkP hinitP hy (g := g) hg (argsL := argsL) (rest := rest) (hlen _ hsigM) hstack hdg
  rcases hK m meth c ⟨T.setVm vm₁, locs, cells, slots⟩ { g with stack := rest } (.invokestatic index) mk argsL.toArray X₁ hg hsize hdg hW (X₁.named hnamed) (hpre vm₁ X₁.warmed) with ⟨v, B, X', hpost, hsteps⟩ | ⟨q, B, X', hpost, hsteps⟩
  · exact Or.inl ⟨v, vm₁, B, X₁.warmed, X', hpost, fun target h => hstep₁ _ fun acts => by rw [doInvoke_state]; exact hsteps.trans h⟩
  · exact Or.inr ⟨q, vm₁, B, X₁.warmed, X', hpost, hstep₁ _ fun acts => by rw [doInvoke_state]; exact hsteps⟩
end Calls
theorem vx_cls {s : State} {T : State} {vm₁ : Vm} {E : String} {k : ClassId} (hW : s.WarmedH vm₁) (h : (T.setVm vm₁).vm.findClass E = some k) : s.vm.findClass E = some k := by
  have h1 : vm₁.findClass E = some k := h
  rw [hW.alike.findClass] at h1
  exact h1
/-- the method's frame g, with q thrown over it -/
def vx_W (p : Program) (l : Launch) (e : Env) (R : Room) (s : State) (m : MethodId) (args : Array Value) (below : List Frame) (meth : Method) (c : Code) (H : Heap) (locs : List Loc) (cells slots : Nat) (Q : State → Prop) (g : JFrame) (q : Addr) : Prop :=
  ∀ T : State, T.heap = H → Stand p l e R s m args below meth c T locs cells slots → ∃ t, Steps p.tables e below ((T.setTop g).pushFrame (.throwing q)) t ∧ Q t
def vx_Run (p : Program) (l : Launch) (e : Env) (R : Room) (s : State) (m : MethodId) (args : Array Value) (below : List Frame) (meth : Method) (c : Code) (H : Heap) (locs : List Loc) (cells slots mc ms : Nat) (g : JFrame) (rest : List Value) (Qa : State → Outcome → State → Prop) (XC : String → State → State → Prop) (free : Addr → Prop) : Prop :=
  ∀ T : State, T.heap = H → Stand p l e R s m args below meth c T locs cells slots →
    (∃ (v : Option Value) (st₀ t T' : State) (L : List Loc), st₀.heap = H ∧ Stand p l e R s m args below meth c T' (locs ++ L) (cells + mc) (slots + ms) ∧ (∀ q ∈ L, free q.base) ∧ T'.heap = t.heap ∧ T'.vm = t.vm ∧ Qa st₀ (.returned v) t ∧
      Goes p e below T g T' { g with pc := g.pc + 3, stack := v.toList ++ rest }) ∨
    (∃ (q : Addr) (st₀ t T' : State) (L : List Loc) (E : String) (ce : Cell), st₀.heap = H ∧ Stand p l e R s m args below meth c T' (locs ++ L) (cells + mc) (slots + ms) ∧ (∀ z ∈ L, free z.base) ∧ T'.heap = t.heap ∧ T'.vm = t.vm ∧ XC E st₀ t ∧ t.heap[q]? = some ce ∧ ce.vm = .none ∧ s.vm.findClass E = some ce.cls ∧
      Steps p.tables e below (T.setTop g) ((T'.setTop { g with stack := rest }).pushFrame (.throwing q)))
def vx_X {S : Type} (px : S → Prop) (B : String → S → State → Prop) (A : Nat → Prop) : String → State → State → Prop := fun E st t => ∃ u : S, px u ∧ B E u t ∧ va_F A st t
section Runs
variable {p : Program} {l : Launch} {e : Env} {R : Room} {s : State} {m : MethodId} {args : Array Value} {below : List Frame} {meth : Method} {c : Code} {H : Heap} {locs : List Loc} {cells slots : Nat}
variable {y : MethodName} {bytes cc : ByteArray} {maxL nL mc ms n index : Nat} {ret : Option FieldType} {ws : List Cond} {rm : Room} {Pc : Array Value → State → Prop} {Qc : Array Value → State → Outcome → State → Prop} {XC : String → State → State → Prop} {free : Addr → Prop} {Ts : List Cond} {own C : String} {b : Addr} {As rest : List Value} {g : JFrame}
theorem vx_callBack (cb : CallB R s args own index y bytes maxL ret ws rm mc ms n) (hM : vx_Met l y ws rm Pc Qc XC mc ms free) (hbl : FrameBlind Pc) : vx_Back l R p e below s args y 3 8 (PreOf R mc ms Pc) (PostOf Qc mc ms free) (vx_Post XC mc ms free) := by
  obtain ⟨hrc, hrs, hfr, hlo, hws, hcw, -, hini, -⟩ := cb
  exact vx_back (bytes := bytes) (maxL := maxL) (ret := ret) hM hbl hrc hrs hfr hlo hws hcw (fun a' U hW => word_at hW (Or.inl (by first | rfl | simp [Cond.onTables, Cond.keeps, Cond.steady])) hini)
theorem vx_runV (S : CallFix p m c cc nL s args Ts own) (hM : vx_Met l y ws rm Pc Qc XC mc ms free) (cw : CallW R s args own C index y bytes maxL ret ws rm mc ms n) (hp : PreV s H C b Pc As)
    (hg : g.method = m) (hn : As.length = n) (hsize : g.locals.size = nL) (hstack : g.stack = As.reverse ++ .ref b :: rest) (hW : 2 * g.monitorRoom + (rest.map fun v => v.category).sum ≤ 8) (hdg : decode cc g.pc = .ok (.invokevirtual index, 3)) (hf : cells + mc ≤ R.cells ∧ slots + ms ≤ R.slots) :
    vx_Run p l e R s m args below meth c H locs cells slots mc ms g rest (Qc (Value.ref b :: As).toArray) XC free := by
  have hK : vx_Back l R p e below s args y 3 8 (PreOf R mc ms Pc) (PostOf Qc mc ms free) (vx_Post XC mc ms free) := vx_callBack cw.1 hM hp.1
  obtain ⟨⟨-, -, -, -, -, -, hcode, -, hy, hlen, hl⟩, hin, hse⟩ := cw
  obtain ⟨hx, hb, hml, ho, -⟩ := S
  obtain ⟨-, ⟨cellB, hcB, hoB, hclB⟩, hPc⟩ := hp
  intro T hT X
  rcases vx_callV X hx (C := C) (bytes := bytes) (maxL := maxL) (ret := ret) ho hl hin hse hcode hy hK (by rw [hT]; exact hcB) hoB hclB hg (hsize.trans hml.symm) (argsL := As) (rest := rest) (fun sig h => hn.trans (hlen sig h)) hstack hW (by rw [hb]; exact hdg)
    (fun vm₁ hW₁ => ⟨hf.1, hf.2, hPc (T.setVm vm₁) hT hW₁⟩) with ⟨v, vm₁, ⟨U', l2, c2, s2⟩, hW₁, X', ⟨g', mk, t, L, e1, e2, hq, h1, hL, h2, h3⟩, st⟩ | ⟨q, vm₁, ⟨U', l2, c2, s2⟩, hW₁, X', ⟨g', mk, t, L, E, ce, e1, e2, hq, hce, hcv, hcl, h1, hL, h2, h3⟩, st⟩
  · dsimp only [Pt.U, Pt.locs, Pt.cells, Pt.slots] at X' e1 e2 h1 h2 h3 st
    subst h1; subst h2; subst h3
    exact Or.inl ⟨v, (T.setVm vm₁).calling g' mk (Value.ref b :: As).toArray, t, U', L, hT, X', hL, e1, e2, hq, st⟩
  · dsimp only [Pt.U, Pt.locs, Pt.cells, Pt.slots] at X' e1 e2 h1 h2 h3 st hcl
    subst h1; subst h2; subst h3
    exact Or.inr ⟨q, (T.setVm vm₁).calling g' mk (Value.ref b :: As).toArray, t, U', L, E, ce, hT, X', hL, e1, e2, hq, hce, hcv, vx_cls hW₁ hcl, st⟩
theorem vx_runS (S : CallFix p m c cc nL s args Ts own) (hM : vx_Met l y ws rm Pc Qc XC mc ms free) (cw : CallB R s args own index y bytes maxL ret ws rm mc ms n ∧ (Cond.static y).before args s = true) (hp : PreS s H Pc As)
    (hg : g.method = m) (hn : As.length = n) (hsize : g.locals.size = nL) (hstack : g.stack = As.reverse ++ rest) (hW : 2 * g.monitorRoom + (rest.map fun v => v.category).sum ≤ 8) (hdg : decode cc g.pc = .ok (.invokestatic index, 3)) (hf : cells + mc ≤ R.cells ∧ slots + ms ≤ R.slots) :
    vx_Run p l e R s m args below meth c H locs cells slots mc ms g rest (Qc As.toArray) XC free := by
  have hK : vx_Back l R p e below s args y 3 8 (PreOf R mc ms Pc) (PostOf Qc mc ms free) (vx_Post XC mc ms free) := vx_callBack cw.1 hM hp.1
  obtain ⟨⟨-, -, -, -, -, -, hcode, hini, hy, hlen, hl⟩, hstt⟩ := cw
  obtain ⟨hx, hb, hml, ho, -⟩ := S
  intro T hT X
  rcases vx_callS X hx (bytes := bytes) (maxL := maxL) (ret := ret) ho hl hstt hini hcode hy hK hg (hsize.trans hml.symm) (argsL := As) (rest := rest) (fun sig h => hn.trans (hlen sig h)) hstack hW (by rw [hb]; exact hdg)
    (fun vm₁ hW₁ => ⟨hf.1, hf.2, hp.2 (T.setVm vm₁) hT hW₁⟩) with ⟨v, vm₁, ⟨U', l2, c2, s2⟩, hW₁, X', ⟨g', mk, t, L, e1, e2, hq, h1, hL, h2, h3⟩, st⟩ | ⟨q, vm₁, ⟨U', l2, c2, s2⟩, hW₁, X', ⟨g', mk, t, L, E, ce, e1, e2, hq, hce, hcv, hcl, h1, hL, h2, h3⟩, st⟩
  · dsimp only [Pt.U, Pt.locs, Pt.cells, Pt.slots] at X' e1 e2 h1 h2 h3 st
    subst h1; subst h2; subst h3
    exact Or.inl ⟨v, (T.setVm vm₁).calling g' mk As.toArray, t, U', L, hT, X', hL, e1, e2, hq, st⟩
  · dsimp only [Pt.U, Pt.locs, Pt.cells, Pt.slots] at X' e1 e2 h1 h2 h3 st hcl
    subst h1; subst h2; subst h3
    exact Or.inr ⟨q, (T.setVm vm₁).calling g' mk As.toArray, t, U', L, E, ce, hT, X', hL, e1, e2, hq, hce, hcv, vx_cls hW₁ hcl, st⟩
end Runs
section Rows
variable {p : Program} {l : Launch} {e : Env} {R : Room} {s : State} {m : MethodId} {args : Array Value} {below : List Frame} {meth : Method} {c : Code} {H : Heap} {locs : List Loc} {cells slots : Nat} {Q : State → Prop}
variable {mc ms : Nat} {free : Addr → Prop} {A0 A1 : Nat → Prop} {H0 : Heap} {a : Array Value} {pc : Nat} {ls : Array Slot} {st0 rest : List Value}
theorem vx_keep {st₀ t T' : State} {L : List Loc} (h0 : st₀.heap = H) (e1 : T'.heap = t.heap) (hS : va_S A0 H0 H locs) (hA : ∀ q, q < H.size → A1 q → A0 q) (hf : ∀ q, free q → A0 q) (hL : ∀ q ∈ L, free q.base) (hF : va_F A1 st₀ t) :
    H.size ≤ T'.heap.size ∧ (∀ q : Nat, q < H.size → ¬ A1 q → T'.heap[q]? = H[q]?) ∧ va_S A0 H0 T'.heap (locs ++ L) := by
  obtain ⟨hz, hk⟩ := hF
  rw [h0] at hz hk
  exact ⟨by rw [e1]; exact hz, fun q h1 h2 => by rw [e1]; exact hk q h1 h2,
    ⟨Nat.le_trans hS.1 (by rw [e1]; exact hz), fun q h1 h2 => by rw [e1, hk q (Nat.lt_of_lt_of_le h1 hS.1) (fun z => h2 (hA q (Nat.lt_of_lt_of_le h1 hS.1) z))]; exact hS.2.1 q h1 h2, fun q hq => by
      rcases List.mem_append.mp hq with h | h
      · exact hS.2.2 q h
      · exact hf _ (hL q h)⟩⟩
theorem vx_calli {S SX : Type} {post : Int32 → S → Prop} {px : SX → Prop} {B : S → State → Prop} {BX : String → SX → State → Prop} {AX : Nat → Prop} (hr : vx_Run p l e R s m args below meth c H locs cells slots mc ms (F0 m pc ls st0) rest (va_Qi post B A1 a) (vx_X px BX AX) free) (hS : va_S A0 H0 H locs) (hA : ∀ q, q < H.size → A1 q → A0 q) (hf : ∀ q, free q → A0 q) (hAX : ∀ q, q < H.size → AX q → A0 q)
    (kx : ∀ (E : String) (ce : Cell) (q9 : Addr) (u : SX) (t : State) (H1 : Heap) (locs1 : List Loc), t.heap = H1 → s.vm.Alike t.vm → px u → BX E u t → H.size ≤ H1.size → (∀ q : Nat, q < H.size → ¬ AX q → H1[q]? = H[q]?) → va_S A0 H0 H1 locs1 → H1[q9]? = some ce → ce.vm = .none → s.vm.findClass E = some ce.cls → vx_W p l e R s m args below meth c H1 locs1 (cells + mc) (slots + ms) Q (F0 m pc ls rest) q9)
    (kk : ∀ (r : Int32) (u : S) (t : State) (H1 : Heap) (locs1 : List Loc), t.heap = H1 → s.vm.Alike t.vm → post r u → B u t → H.size ≤ H1.size → (∀ q : Nat, q < H.size → ¬ A1 q → H1[q]? = H[q]?) → va_S A0 H0 H1 locs1 → W p l e R s m args below meth c H1 locs1 (cells + mc) (slots + ms) Q (F0 m (pc + 3) ls (.int r :: rest))) : W p l e R s m args below meth c H locs cells slots Q (F0 m pc ls st0) := by
  intro T hT X
  rcases hr T hT X with ⟨v, st₀, t, T', L, h0, X', hL, e1, e2, ⟨⟨r, u, hv, hp, hb⟩, hF⟩, st⟩ | ⟨q, st₀, t, T', L, E, ce, h0, X', hL, e1, e2, ⟨u, hp, hb, hF⟩, hce, hcv, hcl, st⟩
  · cases hv
    obtain ⟨k1, k2, k3⟩ := vx_keep h0 e1 hS hA hf hL hF
    obtain ⟨t2, a1, b1⟩ := kk r u t T'.heap (locs ++ L) e1.symm (by rw [← e2]; exact X'.warmed.alike) hp hb k1 k2 k3 T' rfl X'
    exact ⟨t2, st t2 a1, b1⟩
  · obtain ⟨k1, k2, k3⟩ := vx_keep h0 e1 hS hAX hf hL hF
    obtain ⟨t2, a1, b1⟩ := kx E ce q u t T'.heap (locs ++ L) e1.symm (by rw [← e2]; exact X'.warmed.alike) hp hb k1 k2 k3 (by rw [e1]; exact hce) hcv hcl T' rfl X'
    exact ⟨t2, st.trans a1, b1⟩
theorem vx_calll {S SX : Type} {post : Int64 → S → Prop} {px : SX → Prop} {B : S → State → Prop} {BX : String → SX → State → Prop} {AX : Nat → Prop} (hr : vx_Run p l e R s m args below meth c H locs cells slots mc ms (F0 m pc ls st0) rest (va_Ql post B A1 a) (vx_X px BX AX) free) (hS : va_S A0 H0 H locs) (hA : ∀ q, q < H.size → A1 q → A0 q) (hf : ∀ q, free q → A0 q) (hAX : ∀ q, q < H.size → AX q → A0 q)
    (kx : ∀ (E : String) (ce : Cell) (q9 : Addr) (u : SX) (t : State) (H1 : Heap) (locs1 : List Loc), t.heap = H1 → s.vm.Alike t.vm → px u → BX E u t → H.size ≤ H1.size → (∀ q : Nat, q < H.size → ¬ AX q → H1[q]? = H[q]?) → va_S A0 H0 H1 locs1 → H1[q9]? = some ce → ce.vm = .none → s.vm.findClass E = some ce.cls → vx_W p l e R s m args below meth c H1 locs1 (cells + mc) (slots + ms) Q (F0 m pc ls rest) q9)
    (kk : ∀ (r : Int64) (u : S) (t : State) (H1 : Heap) (locs1 : List Loc), t.heap = H1 → s.vm.Alike t.vm → post r u → B u t → H.size ≤ H1.size → (∀ q : Nat, q < H.size → ¬ A1 q → H1[q]? = H[q]?) → va_S A0 H0 H1 locs1 → W p l e R s m args below meth c H1 locs1 (cells + mc) (slots + ms) Q (F0 m (pc + 3) ls (.long r :: rest))) : W p l e R s m args below meth c H locs cells slots Q (F0 m pc ls st0) := by
  intro T hT X
  rcases hr T hT X with ⟨v, st₀, t, T', L, h0, X', hL, e1, e2, ⟨⟨r, u, hv, hp, hb⟩, hF⟩, st⟩ | ⟨q, st₀, t, T', L, E, ce, h0, X', hL, e1, e2, ⟨u, hp, hb, hF⟩, hce, hcv, hcl, st⟩
  · cases hv
    obtain ⟨k1, k2, k3⟩ := vx_keep h0 e1 hS hA hf hL hF
    obtain ⟨t2, a1, b1⟩ := kk r u t T'.heap (locs ++ L) e1.symm (by rw [← e2]; exact X'.warmed.alike) hp hb k1 k2 k3 T' rfl X'
    exact ⟨t2, st t2 a1, b1⟩
  · obtain ⟨k1, k2, k3⟩ := vx_keep h0 e1 hS hAX hf hL hF
    obtain ⟨t2, a1, b1⟩ := kx E ce q u t T'.heap (locs ++ L) e1.symm (by rw [← e2]; exact X'.warmed.alike) hp hb k1 k2 k3 (by rw [e1]; exact hce) hcv hcl T' rfl X'
    exact ⟨t2, st.trans a1, b1⟩
theorem vx_callf {S SX : Type} {post : UInt32 → S → Prop} {px : SX → Prop} {B : S → State → Prop} {BX : String → SX → State → Prop} {AX : Nat → Prop} (hr : vx_Run p l e R s m args below meth c H locs cells slots mc ms (F0 m pc ls st0) rest (va_Qf post B A1 a) (vx_X px BX AX) free) (hS : va_S A0 H0 H locs) (hA : ∀ q, q < H.size → A1 q → A0 q) (hf : ∀ q, free q → A0 q) (hAX : ∀ q, q < H.size → AX q → A0 q)
    (kx : ∀ (E : String) (ce : Cell) (q9 : Addr) (u : SX) (t : State) (H1 : Heap) (locs1 : List Loc), t.heap = H1 → s.vm.Alike t.vm → px u → BX E u t → H.size ≤ H1.size → (∀ q : Nat, q < H.size → ¬ AX q → H1[q]? = H[q]?) → va_S A0 H0 H1 locs1 → H1[q9]? = some ce → ce.vm = .none → s.vm.findClass E = some ce.cls → vx_W p l e R s m args below meth c H1 locs1 (cells + mc) (slots + ms) Q (F0 m pc ls rest) q9)
    (kk : ∀ (r : UInt32) (u : S) (t : State) (H1 : Heap) (locs1 : List Loc), t.heap = H1 → s.vm.Alike t.vm → post r u → B u t → H.size ≤ H1.size → (∀ q : Nat, q < H.size → ¬ A1 q → H1[q]? = H[q]?) → va_S A0 H0 H1 locs1 → W p l e R s m args below meth c H1 locs1 (cells + mc) (slots + ms) Q (F0 m (pc + 3) ls (.float r :: rest))) : W p l e R s m args below meth c H locs cells slots Q (F0 m pc ls st0) := by
  intro T hT X
  rcases hr T hT X with ⟨v, st₀, t, T', L, h0, X', hL, e1, e2, ⟨⟨r, u, hv, hp, hb⟩, hF⟩, st⟩ | ⟨q, st₀, t, T', L, E, ce, h0, X', hL, e1, e2, ⟨u, hp, hb, hF⟩, hce, hcv, hcl, st⟩
  · cases hv
    obtain ⟨k1, k2, k3⟩ := vx_keep h0 e1 hS hA hf hL hF
    obtain ⟨t2, a1, b1⟩ := kk r u t T'.heap (locs ++ L) e1.symm (by rw [← e2]; exact X'.warmed.alike) hp hb k1 k2 k3 T' rfl X'
    exact ⟨t2, st t2 a1, b1⟩
  · obtain ⟨k1, k2, k3⟩ := vx_keep h0 e1 hS hAX hf hL hF
    obtain ⟨t2, a1, b1⟩ := kx E ce q u t T'.heap (locs ++ L) e1.symm (by rw [← e2]; exact X'.warmed.alike) hp hb k1 k2 k3 (by rw [e1]; exact hce) hcv hcl T' rfl X'
    exact ⟨t2, st.trans a1, b1⟩
theorem vx_calld {S SX : Type} {post : UInt64 → S → Prop} {px : SX → Prop} {B : S → State → Prop} {BX : String → SX → State → Prop} {AX : Nat → Prop} (hr : vx_Run p l e R s m args below meth c H locs cells slots mc ms (F0 m pc ls st0) rest (va_Qd post B A1 a) (vx_X px BX AX) free) (hS : va_S A0 H0 H locs) (hA : ∀ q, q < H.size → A1 q → A0 q) (hf : ∀ q, free q → A0 q) (hAX : ∀ q, q < H.size → AX q → A0 q)
    (kx : ∀ (E : String) (ce : Cell) (q9 : Addr) (u : SX) (t : State) (H1 : Heap) (locs1 : List Loc), t.heap = H1 → s.vm.Alike t.vm → px u → BX E u t → H.size ≤ H1.size → (∀ q : Nat, q < H.size → ¬ AX q → H1[q]? = H[q]?) → va_S A0 H0 H1 locs1 → H1[q9]? = some ce → ce.vm = .none → s.vm.findClass E = some ce.cls → vx_W p l e R s m args below meth c H1 locs1 (cells + mc) (slots + ms) Q (F0 m pc ls rest) q9)
    (kk : ∀ (r : UInt64) (u : S) (t : State) (H1 : Heap) (locs1 : List Loc), t.heap = H1 → s.vm.Alike t.vm → post r u → B u t → H.size ≤ H1.size → (∀ q : Nat, q < H.size → ¬ A1 q → H1[q]? = H[q]?) → va_S A0 H0 H1 locs1 → W p l e R s m args below meth c H1 locs1 (cells + mc) (slots + ms) Q (F0 m (pc + 3) ls (.double r :: rest))) : W p l e R s m args below meth c H locs cells slots Q (F0 m pc ls st0) := by
  intro T hT X
  rcases hr T hT X with ⟨v, st₀, t, T', L, h0, X', hL, e1, e2, ⟨⟨r, u, hv, hp, hb⟩, hF⟩, st⟩ | ⟨q, st₀, t, T', L, E, ce, h0, X', hL, e1, e2, ⟨u, hp, hb, hF⟩, hce, hcv, hcl, st⟩
  · cases hv
    obtain ⟨k1, k2, k3⟩ := vx_keep h0 e1 hS hA hf hL hF
    obtain ⟨t2, a1, b1⟩ := kk r u t T'.heap (locs ++ L) e1.symm (by rw [← e2]; exact X'.warmed.alike) hp hb k1 k2 k3 T' rfl X'
    exact ⟨t2, st t2 a1, b1⟩
  · obtain ⟨k1, k2, k3⟩ := vx_keep h0 e1 hS hAX hf hL hF
    obtain ⟨t2, a1, b1⟩ := kx E ce q u t T'.heap (locs ++ L) e1.symm (by rw [← e2]; exact X'.warmed.alike) hp hb k1 k2 k3 (by rw [e1]; exact hce) hcv hcl T' rfl X'
    exact ⟨t2, st.trans a1, b1⟩
theorem vx_callv {S SX : Type} {post : S → Prop} {px : SX → Prop} {B : S → State → Prop} {BX : String → SX → State → Prop} {AX : Nat → Prop} (hr : vx_Run p l e R s m args below meth c H locs cells slots mc ms (F0 m pc ls st0) rest (va_Qv post B A1 a) (vx_X px BX AX) free) (hS : va_S A0 H0 H locs) (hA : ∀ q, q < H.size → A1 q → A0 q) (hf : ∀ q, free q → A0 q) (hAX : ∀ q, q < H.size → AX q → A0 q)
    (kx : ∀ (E : String) (ce : Cell) (q9 : Addr) (u : SX) (t : State) (H1 : Heap) (locs1 : List Loc), t.heap = H1 → s.vm.Alike t.vm → px u → BX E u t → H.size ≤ H1.size → (∀ q : Nat, q < H.size → ¬ AX q → H1[q]? = H[q]?) → va_S A0 H0 H1 locs1 → H1[q9]? = some ce → ce.vm = .none → s.vm.findClass E = some ce.cls → vx_W p l e R s m args below meth c H1 locs1 (cells + mc) (slots + ms) Q (F0 m pc ls rest) q9)
    (kk : ∀ (u : S) (t : State) (H1 : Heap) (locs1 : List Loc), t.heap = H1 → s.vm.Alike t.vm → post u → B u t → H.size ≤ H1.size → (∀ q : Nat, q < H.size → ¬ A1 q → H1[q]? = H[q]?) → va_S A0 H0 H1 locs1 → W p l e R s m args below meth c H1 locs1 (cells + mc) (slots + ms) Q (F0 m (pc + 3) ls (rest))) : W p l e R s m args below meth c H locs cells slots Q (F0 m pc ls st0) := by
  intro T hT X
  rcases hr T hT X with ⟨v, st₀, t, T', L, h0, X', hL, e1, e2, ⟨⟨u, hv, hp, hb⟩, hF⟩, st⟩ | ⟨q, st₀, t, T', L, E, ce, h0, X', hL, e1, e2, ⟨u, hp, hb, hF⟩, hce, hcv, hcl, st⟩
  · cases hv
    obtain ⟨k1, k2, k3⟩ := vx_keep h0 e1 hS hA hf hL hF
    obtain ⟨t2, a1, b1⟩ := kk u t T'.heap (locs ++ L) e1.symm (by rw [← e2]; exact X'.warmed.alike) hp hb k1 k2 k3 T' rfl X'
    exact ⟨t2, st t2 a1, b1⟩
  · obtain ⟨k1, k2, k3⟩ := vx_keep h0 e1 hS hAX hf hL hF
    obtain ⟨t2, a1, b1⟩ := kx E ce q u t T'.heap (locs ++ L) e1.symm (by rw [← e2]; exact X'.warmed.alike) hp hb k1 k2 k3 (by rw [e1]; exact hce) hcv hcl T' rfl X'
    exact ⟨t2, st.trans a1, b1⟩
/-- caught by the row x of this method's table; the rows ahead don't take it -/
theorem vx_catch {own name : String} {E : String} {ce : Cell} {q : Addr} (hown : s.vm.findClass own = some m.cls) (pre : List ExceptionTableEntry) (x : ExceptionTableEntry) (suf : List ExceptionTableEntry) (hsplit : c.exceptionTable.toList = pre ++ x :: suf)
    (hpass : ∀ z ∈ pre, covers z pc = false ∨ (z.catchType ≠ 0 ∧ ∃ nm : String, (Cond.classLink own z.catchType nm).before args s = true ∧ va_Nc E nm s)) (hx : covers x pc = true) (h0 : x.catchType ≠ 0)
    (hlink : (Cond.classLink own x.catchType name).before args s = true) (hcast : (Cond.castable E name).before args s = true) (hcell : H[q]? = some ce) (hv : ce.vm = .none) (hcl : s.vm.findClass E = some ce.cls)
    (kk : W p l e R s m args below meth c H locs cells slots Q (F0 m x.handlerPc ls [.ref q])) : vx_W p l e R s m args below meth c H locs cells slots Q (F0 m pc ls rest) q := by
  intro T hT X
  have hpl : e.platform.magicAccessors = ({} : Platform).magicAccessors := by rw [X.admits.platform]
  obtain ⟨c3, c4, hc3, hc4, hasg⟩ := Cond.castable_spec hcast
  cases Option.some.inj (hc3.symm.trans hcl)
  obtain ⟨c5, hc5, hcl5⟩ := Cond.classLink_spec hown hlink e.platform hpl
  cases Option.some.inj (hc4.symm.trans hc5)
  obtain ⟨vm', X', st⟩ := X.thenCaughtThrough q (g := F0 m pc ls rest) rfl (Steps.refl _) (by rw [hT]; exact hcell) (by rw [hv]; rfl) (by obtain ⟨k9, h9, -⟩ := Vm.findClass_spec hcl; exact ⟨k9, h9⟩) pre x suf hsplit
    (fun z hz => by
      rcases hpass z hz with h | ⟨hz0, nm, hl1, hn1⟩
      · exact Or.inl h
      · obtain ⟨c6, hc6, hcl6⟩ := Cond.classLink_spec hown hl1 e.platform hpl
        obtain ⟨a8, b8, h1, h2, h3⟩ := hn1
        cases Option.some.inj (h1.symm.trans hcl)
        cases Option.some.inj (h2.symm.trans hc6)
        exact Or.inr ⟨hz0, _, hcl6, h3⟩) hx (Or.inr ⟨h0, c4, hcl5, hasg⟩)
  obtain ⟨t, a1, b1⟩ := kk (T.setVm vm') hT X'
  exact ⟨t, st.trans a1, b1⟩
end Rows
section Ends
variable {p : Program} {l : Launch} {e : Env} {R : Room} {s : State} {m : MethodId} {args : Array Value} {below : List Frame} {meth : Method} {c : Code} {H : Heap} {locs : List Loc} {cells slots : Nat} {Q : State → Prop}
variable {mc ms : Nat} {free : Addr → Prop} {A0 A1 : Nat → Prop} {H0 : Heap} {a : Array Value} {ls : Array Slot} {st0 rest : List Value}
variable {Qc : Array Value → State → Outcome → State → Prop} {XC : String → State → State → Prop}
/-- what a body that may throw owes at its end -/
def vx_MQ (below : List Frame) (Qc : Array Value → State → Outcome → State → Prop) (XC : String → State → State → Prop) (a : Array Value) (s : State) (mc ms : Nat) (free : Addr → Prop) : State → Prop := fun t =>
  ∃ o, t.status = .running ∧ Ended t below o ∧ vx_Q Qc XC mc ms free a s o t
theorem vx_ret {g : JFrame} {mc ms : Nat} (k : W p l e R s m args below meth c H locs cells slots (MQ below Qc args s mc ms free) g) : W p l e R s m args below meth c H locs cells slots (vx_MQ below Qc XC args s mc ms free) g := by
  intro T hT X
  obtain ⟨t, a1, o, b1, b2, b3, b4⟩ := k T hT X
  exact ⟨t, a1, o, b1, b2, Or.inl ⟨b3, b4⟩⟩
/-- not caught here: it goes on to the caller -/
theorem vx_widen {g : JFrame} {q : Addr} {k n : Nat} (h1 : cells ≤ k) (h2 : slots ≤ n) (kk : vx_W p l e R s m args below meth c H locs k n Q g q) : vx_W p l e R s m args below meth c H locs cells slots Q g q := fun T hT X => kk T hT (stand_widen X h1 h2)
theorem vx_out {pc : Nat} {E : String} {ce : Cell} {q : Addr} {mc ms : Nat} (hout : ∀ x ∈ c.exceptionTable.toList, covers x pc = false) (hlocks : meth.locks = false) (hcell : H[q]? = some ce) (hv : ce.vm = .none) (hcl : s.vm.findClass E = some ce.cls)
    (hx : ∀ t : State, t.heap = H → s.vm.Alike t.vm → XC E s t) (hf : ∀ z ∈ locs, free z.base) (hc : cells ≤ mc) (hs : slots ≤ ms) :
    vx_W p l e R s m args below meth c H locs cells slots (vx_MQ below Qc XC args s mc ms free) (F0 m pc ls rest) q := by
  intro T hT X
  obtain ⟨st1, hrun, hend, hW, hsm⟩ := X.leaveThrown q (g := F0 m pc ls rest) rfl rfl rfl hout hlocks
  have hcell9 : (T.setFrames (.throwing q :: below)).heap[q]? = some ce := by
    show T.heap[q]? = some ce
    rw [hT]; exact hcell
  exact ⟨_, st1, .threw q, hrun, hend, Or.inr ⟨q, rfl, E, ce, locs, hx _ hT hW.alike, hcell9, hv, hcl, hW, hsm.mono hc hs, hf⟩⟩
theorem vx_frame {U : State} {k n : Nat} (h : s.sameButNew ({ U with vm := s.vm } : State) locs k n) : s.heap.size ≤ U.heap.size ∧ ∀ q : Nat, q < s.heap.size → (∀ z ∈ locs, z.base ≠ q) → U.heap[q]? = s.heap[q]? := by
  obtain ⟨-, h2, -, -, -, h6⟩ := h
  refine ⟨h2, fun q hq hz => ?_⟩
  obtain ⟨c9, e1, e2, e3, e4⟩ := h6 q _ (Array.getElem?_eq_getElem hq)
  have hs : c9.slots = (s.heap[q]).slots := Array.ext_getElem? fun i => e4 i fun hm => hz _ hm rfl
  have h9 : c9 = s.heap[q] := by
    rw [hs] at e2
    exact e2
  have e5 : U.heap[q]? = some c9 := e1
  rw [e5, h9, Array.getElem?_eq_getElem hq]
/-- the words of a throw but the four that speak of the heap -/
def vx_no (w : Cond) : Bool := decide (w ≠ .isRef (.static Bundle.tN "UNASSIGNED_STACK" Bundle.steD)) && decide (w ≠ .isRef (.static Bundle.tN "SUPPRESSED_SENTINEL" Bundle.listD)) && decide (w ≠ .laysStatic Bundle.tN "UNASSIGNED_STACK" Bundle.steD) && decide (w ≠ .laysStatic Bundle.tN "SUPPRESSED_SENTINEL" Bundle.listD)
def vx_at0 (own : String) (ic : Nat) (X : String) (names : List String) : List Cond := (Bundle.ownAtoms0 own ic X names).filter vx_no
def vx_atS (own : String) (ic : Nat) (X : String) (names : List String) : List Cond := (Bundle.ownAtoms own ic X names).filter vx_no
/-- a word that the tables alone decide, or a good one -/
def vx_ot (w : Cond) : Bool := w.onTables || goodWord w
theorem vx_ot_at {args a' : Array Value} {s U : State} {w : Cond} (hW : s.WarmedH U.vm) (hvm : s.vm = U.vm) (hg : vx_ot w = true) (h : w.before args s = true) : w.before a' U = true := by
  simp only [vx_ot, Bool.or_eq_true] at hg
  rcases hg with hg | hg
  · exact va_tabs hg hvm h
  · exact word_at hW (good_of_word hg) h
/-- a list's words: the good ones out of the method's own list, the others by premises of their own -/
theorem vx_hat {args : Array Value} {s : State} {L B : List Cond} (h1 : ∀ w ∈ L.filter goodWord, w.before args s = true) (h2 : ∀ w ∈ L.filter (fun w => !goodWord w), w ∈ B) (h3 : ∀ w ∈ B, w.before args s = true) : ∀ w ∈ L, w.before args s = true := by
  intro w hw
  by_cases g : goodWord w = true
  · exact h1 w (List.mem_filter.mpr ⟨hw, g⟩)
  · refine h3 w (h2 w (List.mem_filter.mpr ⟨hw, ?_⟩))
    show (!goodWord w) = true
    cases hgw : goodWord w
    · rfl
    · exact absurd hgw g
theorem vx_c {args : Array Value} {s : State} {w : Cond} {B : List Cond} (h : w.before args s = true) (t : ∀ w ∈ B, w.before args s = true) : ∀ w' ∈ w :: B, w'.before args s = true := fun w' h' => (List.mem_cons.mp h').elim (fun e => by rw [e]; exact h) (t w')
theorem vx_n {args : Array Value} {s : State} : ∀ w ∈ ([] : List Cond), w.before args s = true := fun _ h => nomatch h
theorem vx_own {args : Array Value} {s : State} {L : List Cond} (h1 : ∀ w ∈ L.filter vx_no, w.before args s = true)
    (hU : (Cond.isRef (.static Bundle.tN "UNASSIGNED_STACK" Bundle.steD)).before args s = true) (hN : (Cond.isRef (.static Bundle.tN "SUPPRESSED_SENTINEL" Bundle.listD)).before args s = true)
    (lU : (Cond.laysStatic Bundle.tN "UNASSIGNED_STACK" Bundle.steD).before args s = true) (lN : (Cond.laysStatic Bundle.tN "SUPPRESSED_SENTINEL" Bundle.listD).before args s = true) : ∀ w ∈ L, w.before args s = true := by
  intro w hw
  by_cases e1 : w = .isRef (.static Bundle.tN "UNASSIGNED_STACK" Bundle.steD)
  · rw [e1]; exact hU
  · by_cases e2 : w = .isRef (.static Bundle.tN "SUPPRESSED_SENTINEL" Bundle.listD)
    · rw [e2]; exact hN
    · by_cases e3 : w = .laysStatic Bundle.tN "UNASSIGNED_STACK" Bundle.steD
      · rw [e3]; exact lU
      · by_cases e4 : w = .laysStatic Bundle.tN "SUPPRESSED_SENTINEL" Bundle.listD
        · rw [e4]; exact lN
        · exact h1 w (List.mem_filter.mpr ⟨hw, by unfold vx_no; rw [decide_eq_true e1, decide_eq_true e2, decide_eq_true e3, decide_eq_true e4]; rfl⟩)
/-- where a static field lies, its class's statics cell in H -/
def vx_L (C n d : String) (A : Nat → Prop) (U : State) (H : Heap) : Prop := ∃ (c : ClassId) (k : Class) (i : Nat) (f : Field) (a : Nat) (cell : Cell), U.vm.findClass C = some c ∧ U.fieldFound? C n d = some (c, k, i, f) ∧ f.isStatic = true ∧ k.statics = some a ∧ H[a]? = some cell ∧ cell.vm.isStatics = true ∧ cell.cls = c ∧ f.slot < cell.slots.size ∧ k.staticTypes[f.slot]? = some f.type ∧ ¬ A a
theorem vx_L.moved {C n d : String} {A : Nat → Prop} {u U : State} {H : Heap} (hvm : u.vm.Alike U.vm) (h : vx_L C n d A u H) : vx_L C n d A U H := by
  obtain ⟨c, k, i, f, a, cell, h1, h2, h3, h4, h5, h6, h7, h8, h9, h10⟩ := h
  obtain ⟨k', hi', he⟩ := State.fieldFound?_setVm hvm h2
  exact ⟨c, k', i, f, a, cell, by rw [hvm.findClass]; exact h1, hi', h3, by rw [he]; exact h4, h5, h6, h7, h8, by rw [he]; exact h9, h10⟩
theorem vx_L.kept {C n d : String} {A : Nat → Prop} {U : State} {H H1 : Heap} (h : vx_L C n d A U H) (hq : ∀ a : Nat, a < H.size → ¬ A a → H1[a]? = H[a]?) : vx_L C n d A U H1 := by
  obtain ⟨c, k, i, f, a, cell, h1, h2, h3, h4, h5, h6, h7, h8, h9, h10⟩ := h
  exact ⟨c, k, i, f, a, cell, h1, h2, h3, h4, by rw [hq a (Array.getElem?_eq_some_iff.mp h5).1 h10]; exact h5, h6, h7, h8, h9, h10⟩
theorem vx_L.narrow {C n d : String} {A B : Nat → Prop} {U : State} {H : Heap} (h : vx_L C n d A U H) (hAB : ∀ q, B q → A q) : vx_L C n d B U H := by
  obtain ⟨c, k, i, f, a, cell, h1, h2, h3, h4, h5, h6, h7, h8, h9, h10⟩ := h
  exact ⟨c, k, i, f, a, cell, h1, h2, h3, h4, h5, h6, h7, h8, h9, fun z => h10 (hAB _ z)⟩
theorem vx_L.word {C n d : String} {A : Nat → Prop} {s : State} {args : Array Value} (h : vx_L C n d A s s.heap) : (Cond.laysStatic C n d).before args s = true := by
  obtain ⟨c, k, i, f, a, cell, h1, h2, h3, h4, h5, h6, h7, h8, h9, -⟩ := h
  show (Cond.laysStatic C n d).holds args s none s [] = true
  exact Cond.laysStatic_of h1 h2 h3 h4 h5 h6 h7 h8 h9
/-- .. and what it holds: null or some reference -/
def vx_Zq (C n d : String) (A : Nat → Prop) (U : State) (H : Heap) : Prop := va_Zq C n d A U H ∧ vx_L C n d A U H
theorem vx_Zq.moved {C n d : String} {A : Nat → Prop} {u U : State} {H : Heap} (hvm : u.vm.Alike U.vm) (h : vx_Zq C n d A u H) : vx_Zq C n d A U H := ⟨va_Zq.moved hvm h.1, vx_L.moved hvm h.2⟩
theorem vx_Zq.kept {C n d : String} {A : Nat → Prop} {U : State} {H H1 : Heap} (h : vx_Zq C n d A U H) (hq : ∀ a : Nat, a < H.size → ¬ A a → H1[a]? = H[a]?) : vx_Zq C n d A U H1 := ⟨va_Zq.kept h.1 hq, vx_L.kept h.2 hq⟩
theorem vx_Zq.narrow {C n d : String} {A B : Nat → Prop} {U : State} {H : Heap} (h : vx_Zq C n d A U H) (hAB : ∀ q, B q → A q) : vx_Zq C n d B U H := ⟨va_Zq.narrow h.1 hAB, vx_L.narrow h.2 hAB⟩
theorem vx_Zqof {args : Array Value} {s : State} {C n d : String} {A : Nat → Prop} (hl : (Cond.laysStatic C n d).before args s = true) (hini : (Cond.initialized C).before args s = true) (h : (Cond.isRef (.static C n d)).before args s = true) (hA : ∀ a : Nat, a < s.heap.size → ¬ A a) : vx_Zq C n d A s s.heap := by
  refine ⟨va_Zqof hl hini h hA, ?_⟩
  obtain ⟨c, k, i, f, a, cell, h1, h2, h3, h4, h5, h6, h7, h8, h9⟩ := Cond.laysStatic_spec hl
  exact ⟨c, k, i, f, a, cell, h1, h2, h3, h4, h5, h6, h7, h8, h9, hA a (Array.getElem?_eq_some_iff.mp h5).1⟩
theorem vx_isRef {C n d : String} {v : Value} {A : Nat → Prop} {s : State} {args : Array Value} (h : va_Z C n d v A s s.heap) (hv : v.isRef = true) : (Cond.isRef (.static C n d)).before args s = true := by
  obtain ⟨cf, kf, fi, f, a, cell, h1, h2, h3, h4, h5, h6, h7, -⟩ := h
  have he : (Term.static C n d).eval args s none [] s = some v := by
    simp [Term.eval, State.fieldNamed?, h1, h2, h4, h5, h6, h7]
  simp only [Cond.before, Cond.holds, Cond.value, he]
  cases v <;> simp_all [Value.isRef]
theorem vx_isRefq {C n d : String} {A : Nat → Prop} {s : State} {args : Array Value} (h : va_Zq C n d A s s.heap) : (Cond.isRef (.static C n d)).before args s = true := by
  rcases h with h | ⟨t, h⟩
  · exact vx_isRef h rfl
  · exact vx_isRef h rfl
/-- the same frame, seen from here: as if the method were called anew in this heap -/
theorem vx_rebase {T : State} (X : Stand p l e R s m args below meth c T locs cells slots) {R' : Room} (hf : R'.frames ≤ R.frames) (hl : R'.locals ≤ R.locals) (hc : cells + R'.cells ≤ R.cells) (hs : slots + R'.slots ≤ R.slots) :
    Stand p l e R' ((T.setVm s.vm).setFrames (.invoking m args :: below)) m args below meth c T [] 0 0 := by
  have htop : (T.setVm s.vm).topJava?.isSome := X.here.top
  have hF : ((T.setVm s.vm).setFrames (.invoking m args :: below)).frames = .invoking m args :: below := State.frames_setFrames _ (State.cur_lt_of_top htop)
  obtain ⟨g₀, hg0⟩ := Option.isSome_iff_exists.mp htop
  obtain ⟨r, hr⟩ := State.topJava?_eq_some.mp hg0
  have hl9 : e.platform.stackLimits (T.setVm s.vm).me = e.platform.stackLimits s.me := X.limits
  have hb9 : (T.setVm s.vm).me.stackBytes = s.me.stackBytes := X.bytes
  refine ⟨X.admits, X.cas, X.clock, hF, ?_, X.hears, X.method, X.code, X.here, X.tail, X.warmed, ?_, ?_, ?_⟩
  · have h := X.room
    have hU : ((T.setVm s.vm).setFrames (.invoking m args :: below)).localsInUse = s.localsInUse := by
      rw [State.localsInUse_invoking hF (meth := meth) (c := c) X.method X.code, State.localsInUse_invoking X.frames X.method X.code]
    simp only [State.hasRoom, Bool.and_eq_true, decide_eq_true_eq] at h ⊢
    obtain ⟨⟨⟨⟨h1, h2, h3, h4, h5, h6⟩, h7⟩, h8⟩, h9⟩ := h
    rw [X.frames, List.length_cons] at h2 h3
    have q1 := X.heapSize
    have q2 := X.used
    simp only [hF, hU, List.length_cons, State.stackLimits_setFrames, State.stackBytes_setFrames, hl9, hb9]
    refine ⟨⟨⟨⟨by omega, by omega, by omega, by omega, by omega, h6⟩, ?_⟩, ?_⟩, X.book⟩
    · show T.heap.size + R'.cells ≤ e.platform.maxCells
      omega
    · show T.slotsUsed + R'.slots ≤ e.platform.maxSlots
      omega
  · rw [State.stackLimits_setFrames]; rfl
  · rw [State.stackBytes_setFrames]; rfl
  · refine ⟨?_, Nat.le_refl _, Nat.le_refl _, ?_, ?_, fun a c9 h9 => ⟨c9, h9, rfl, rfl, fun _ _ => rfl⟩⟩
    · obtain ⟨t, ht, -⟩ := State.frames_cons hr
      show T.setVm s.vm = { ((T.setVm s.vm).setFrames (.invoking m args :: below)).setFrames (T.setVm s.vm).frames with heap := T.heap, slotsUsed := T.slotsUsed }
      rw [State.setFrames_setFrames, State.setFrames_self ht]
      rfl
    · show T.slotsUsed = T.slotsUsed + ((T.heap.toList.drop T.heap.size).map (·.slots.size)).sum
      rw [List.drop_eq_nil_of_le (Nat.le_of_eq Array.length_toList)]
      rfl
    · show ((T.heap.toList.drop T.heap.size).map (·.slots.size)).sum ≤ 0
      rw [List.drop_eq_nil_of_le (Nat.le_of_eq Array.length_toList)]
      exact Nat.le_refl _
/-- 'throw new E()': new; dup; invokespecial; athrow -/
theorem vx_throw0 {cc : ByteArray} {pc : Nat} (hexec : p.tables.exec = Jvm.exec) (hb : c.code = cc) (hl : l.stackTraces = false) {own cls : String} {names : List String} {ik ic mc ms : Nat} {A : Nat → Prop}
    (hown : s.vm.findClass own = some m.cls) (hcls : Bundle.fit cls = true) (hnames : ∀ n ∈ names, Bundle.fit n = true)
    (hk : (Cond.classLink own ik cls).before args s = true) (hini : (Cond.initialized cls).before args s = true) (hat : ∀ w ∈ vx_at0 own ic cls names, w.before args s = true)
    (hgood : ∀ w ∈ Cond.classLink own ik cls :: Cond.initialized cls :: vx_at0 own ic cls names, vx_ot w = true)
    (hU : vx_Zq Bundle.tN "UNASSIGNED_STACK" Bundle.steD A s s.heap) (hN : vx_Zq Bundle.tN "SUPPRESSED_SENTINEL" Bundle.listD A s s.heap) (hS : va_S A s.heap H locs) (hsize : ls.size = c.maxLocals)
    (d0 : decode cc pc = .ok (.new ik, 3)) (d3 : decode cc (pc + 3) = .ok (.dup, 1)) (d4 : decode cc (pc + 4) = .ok (.invokespecial ic, 3)) (d7 : decode cc (pc + 7) = .ok (.athrow, 1))
    (hout : ∀ x ∈ c.exceptionTable.toList, covers x (pc + 7) = false)
    (hRframes : names.length + 3 < R.frames) (hRlocals : (rest.map fun v => v.category).sum + (13 * (names.length + 1) + 42) ≤ R.locals) (hRcells : cells + 1 ≤ R.cells) (hRslots : slots + 6 ≤ R.slots) (hlocks : meth.locks = false)
    (hx : ∀ t : State, s.vm.Alike t.vm → H.size ≤ t.heap.size → (∀ q : Nat, q < H.size → t.heap[q]? = H[q]?) → XC cls s t)
    (hf : ∀ z ∈ locs, free z.base) (hc : cells + 1 ≤ mc) (hs : slots + 6 ≤ ms) :
    W p l e R s m args below meth c H locs cells slots (vx_MQ below Qc XC args s mc ms free) (F0 m pc ls rest) := by
  intro T hT X
  have htr : e.platform.stackTraces = false := (show e.platform.stackTraces = l.stackTraces by rw [X.admits.platform]).trans hl
  have Y := vx_rebase X (R' := { frames := R.frames, locals := R.locals, cells := 1, slots := 6 }) (Nat.le_refl _) (Nat.le_refl _) hRcells hRslots
  obtain ⟨s', hA⟩ : ∃ z, z = (T.setVm s.vm).setFrames (.invoking m args :: below) := ⟨_, rfl⟩
  rw [← hA] at Y
  have hvm : s'.vm = s.vm := by rw [hA]; rfl
  have hhp : s'.heap = H := by rw [hA]; exact hT
  have hW0 : s.WarmedH s'.vm := by rw [hvm]; exact State.WarmedH.refl s
  have hat' : ∀ w ∈ vx_at0 own ic cls names, w.before args s' = true := fun w hw => vx_ot_at hW0 hvm.symm (hgood w (List.mem_cons_of_mem _ (List.mem_cons_of_mem _ hw))) (hat w hw)
  have hk' : (Cond.classLink own ik cls).before args s' = true := vx_ot_at hW0 hvm.symm (hgood _ List.mem_cons_self) hk
  have hini' : (Cond.initialized cls).before args s' = true := vx_ot_at hW0 hvm.symm (hgood _ (List.mem_cons_of_mem _ List.mem_cons_self)) hini
  have hU' : vx_Zq Bundle.tN "UNASSIGNED_STACK" Bundle.steD A s' s'.heap := by rw [hhp]; exact vx_Zq.moved hW0.alike (hU.kept hS.2.1)
  have hN' : vx_Zq Bundle.tN "SUPPRESSED_SENTINEL" Bundle.listD A s' s'.heap := by rw [hhp]; exact vx_Zq.moved hW0.alike (hN.kept hS.2.1)
  have h : ∀ w ∈ Bundle.ownAtoms0 own ic cls names, w.before args s' = true := vx_own hat' (vx_isRefq hU'.1) (vx_isRefq hN'.1) hU'.2.word hN'.2.word
  have hown' : s'.vm.findClass own = some m.cls := by rw [hvm]; exact hown
  have hins : (Cond.instantiable cls 6).before args s' = true := h _ (by simp [Bundle.ownAtoms0])
  obtain ⟨vm₁, cX, kX, hfX, hkX, -, -, X₁, st1⟩ := Y.newCold hexec (own := own) (C := cls) (index := ik) (n := 6) hown' hk' hins hini'
    (g := F0 m pc ls rest) rfl (by rw [hb]; exact d0) (Nat.le_refl _) (Nat.le_refl _)
  generalize hT1 : (T.setVm vm₁).pushCell { cls := cX, slots := kX.instanceTypes.map defaultValue, vm := .none } = T1 at X₁ st1
  have hcat : (Value.ref T.heap.size).category = 1 := rfl
  have hcellA : T1.heap[T.heap.size]? = some (freshCell cX kX) := by rw [← hT1]; exact State.heap_pushCell_size _ _
  have d3' : decode c.code (pc + 3) = .ok (.dup, 1) := by rw [hb]; exact d3
  obtain ⟨U, hsteps, hrun, hend, hW, hsame, ce, hce, hO⟩ := X₁.ctorThrow0 hexec htr (own := own) (cls := cls) (names := names) (ic := ic) hown' hcls hnames h (fun x hx => nomatch hx) hfX hkX hcellA (by rw [hhp, hT]; exact Nat.le_refl _)
    (g := { method := m, pc := pc + 4, locals := ls, stack := .ref T.heap.size :: .ref T.heap.size :: rest, locked := none }) rfl hsize rfl rfl (rest := rest) rfl
    (by rw [hb]; exact d4) (by rw [hb]; exact d7) hout hRframes (by simp only [List.map_cons, List.sum_cons, hcat]; omega) hlocks
  obtain ⟨f1, f2⟩ := vx_frame hsame
  rw [hhp] at f1 f2
  have hWs : s.WarmedH U.vm := State.WarmedH.trans hW0 hW
  have hcl : s.vm.findClass cls = some ce.cls := by
    have h9 := hO.cls
    rw [hvm] at h9
    exact h9
  have hall : s.sameButNew ({ U with vm := s.vm } : State) locs mc ms := by
    subst hA
    obtain ⟨e1, e2⟩ := hsame
    rw [State.setFrames_setFrames] at e1
    have h2 : (T.setVm s.vm).sameButNew ({ U with vm := s.vm } : State) [] (0 + 1) (0 + 6) := ⟨e1, e2⟩
    have h3 := X.same.trans h2
    rw [List.append_nil] at h3
    exact h3.mono hc hs
  refine ⟨U, ?_, .threw T.heap.size, hrun, hend, Or.inr ⟨T.heap.size, rfl, cls, ce, locs, hx U hWs.alike f1 (fun q hq => f2 q hq (fun z hz => nomatch hz)), hce, hO.vm, hcl, hWs, hall, hf⟩⟩
  refine st1 _ ?_
  show Steps p.tables e below (T1.setTop { method := m, pc := pc + 3, locals := ls, stack := .ref T.heap.size :: rest, locked := none }) _
  jvm_step X₁.here [X₁.here.top, hexec, d3', Value.category]
  exact hsteps
/-- 'throw new E("text")': new; dup; ldc; invokespecial; athrow -/
theorem vx_throwS {cc : ByteArray} {pc : Nat} (hexec : p.tables.exec = Jvm.exec) (hb : c.code = cc) (hl : l.stackTraces = false) {own cls text : String} {names : List String} {ik is ic mc ms sa : Nat} {A : Nat → Prop}
    (hown : s.vm.findClass own = some m.cls) (hcls : Bundle.fit cls = true) (hnames : ∀ n ∈ names, Bundle.fit n = true)
    (hk : (Cond.classLink own ik cls).before args s = true) (hini : (Cond.initialized cls).before args s = true) (hstr : vk_R own is text sa s) (hat : ∀ w ∈ vx_atS own ic cls names, w.before args s = true)
    (hgood : ∀ w ∈ Cond.classLink own ik cls :: Cond.initialized cls :: vx_atS own ic cls names, vx_ot w = true)
    (hU : vx_Zq Bundle.tN "UNASSIGNED_STACK" Bundle.steD A s s.heap) (hN : vx_Zq Bundle.tN "SUPPRESSED_SENTINEL" Bundle.listD A s s.heap) (hS : va_S A s.heap H locs) (hsize : ls.size = c.maxLocals)
    (d0 : decode cc pc = .ok (.new ik, 3)) (d3 : decode cc (pc + 3) = .ok (.dup, 1)) (d4 : decode cc (pc + 4) = .ok (.ldc is, 2)) (d6 : decode cc (pc + 6) = .ok (.invokespecial ic, 3)) (d9 : decode cc (pc + 9) = .ok (.athrow, 1))
    (hout : ∀ x ∈ c.exceptionTable.toList, covers x (pc + 9) = false)
    (hRframes : names.length + 3 < R.frames) (hRlocals : (rest.map fun v => v.category).sum + (13 * (names.length + 1) + 43) ≤ R.locals) (hRcells : cells + 1 ≤ R.cells) (hRslots : slots + 6 ≤ R.slots) (hlocks : meth.locks = false)
    (hx : ∀ t : State, s.vm.Alike t.vm → H.size ≤ t.heap.size → (∀ q : Nat, q < H.size → t.heap[q]? = H[q]?) → XC cls s t)
    (hf : ∀ z ∈ locs, free z.base) (hc : cells + 1 ≤ mc) (hs : slots + 6 ≤ ms) :
    W p l e R s m args below meth c H locs cells slots (vx_MQ below Qc XC args s mc ms free) (F0 m pc ls rest) := by
  intro T hT X
  have htr : e.platform.stackTraces = false := (show e.platform.stackTraces = l.stackTraces by rw [X.admits.platform]).trans hl
  have Y := vx_rebase X (R' := { frames := R.frames, locals := R.locals, cells := 1, slots := 6 }) (Nat.le_refl _) (Nat.le_refl _) hRcells hRslots
  obtain ⟨s', hA⟩ : ∃ z, z = (T.setVm s.vm).setFrames (.invoking m args :: below) := ⟨_, rfl⟩
  rw [← hA] at Y
  have hvm : s'.vm = s.vm := by rw [hA]; rfl
  have hhp : s'.heap = H := by rw [hA]; exact hT
  have hW0 : s.WarmedH s'.vm := by rw [hvm]; exact State.WarmedH.refl s
  have hat' : ∀ w ∈ vx_atS own ic cls names, w.before args s' = true := fun w hw => vx_ot_at hW0 hvm.symm (hgood w (List.mem_cons_of_mem _ (List.mem_cons_of_mem _ hw))) (hat w hw)
  have hk' : (Cond.classLink own ik cls).before args s' = true := vx_ot_at hW0 hvm.symm (hgood _ List.mem_cons_self) hk
  have hini' : (Cond.initialized cls).before args s' = true := vx_ot_at hW0 hvm.symm (hgood _ (List.mem_cons_of_mem _ List.mem_cons_self)) hini
  have hU' : vx_Zq Bundle.tN "UNASSIGNED_STACK" Bundle.steD A s' s'.heap := by rw [hhp]; exact vx_Zq.moved hW0.alike (hU.kept hS.2.1)
  have hN' : vx_Zq Bundle.tN "SUPPRESSED_SENTINEL" Bundle.listD A s' s'.heap := by rw [hhp]; exact vx_Zq.moved hW0.alike (hN.kept hS.2.1)
  have h : ∀ w ∈ Bundle.ownAtoms own ic cls names, w.before args s' = true := vx_own hat' (vx_isRefq hU'.1) (vx_isRefq hN'.1) hU'.2.word hN'.2.word
  have hown' : s'.vm.findClass own = some m.cls := by rw [hvm]; exact hown
  have hins : (Cond.instantiable cls 6).before args s' = true := h _ (by simp [Bundle.ownAtoms])
  obtain ⟨vm₁, cX, kX, hfX, hkX, -, -, X₁, st1⟩ := Y.newCold hexec (own := own) (C := cls) (index := ik) (n := 6) hown' hk' hins hini'
    (g := F0 m pc ls rest) rfl (by rw [hb]; exact d0) (Nat.le_refl _) (Nat.le_refl _)
  generalize hT1 : (T.setVm vm₁).pushCell { cls := cX, slots := kX.instanceTypes.map defaultValue, vm := .none } = T1 at X₁ st1
  have hcat : (Value.ref T.heap.size).category = 1 := rfl
  have hcellA : T1.heap[T.heap.size]? = some (freshCell cX kX) := by rw [← hT1]; exact State.heap_pushCell_size _ _
  have d3' : decode c.code (pc + 3) = .ok (.dup, 1) := by rw [hb]; exact d3
  have d4' : decode c.code (pc + 4) = .ok (.ldc is, 2) := by rw [hb]; exact d4
  have hstr' : vk_R own is text sa s' := vk_R.warm hW0 hstr
  obtain ⟨U, hsteps, hrun, hend, hW, hsame, ce, hce, hO⟩ := X₁.ctorThrowS hexec htr (own := own) (cls := cls) (names := names) (ic := ic) hown' hcls hnames h (fun x hx => nomatch hx) hfX hkX hcellA (by rw [hhp, hT]; exact Nat.le_refl _) (msg := .ref sa) rfl
    (g := { method := m, pc := pc + 6, locals := ls, stack := .ref sa :: .ref T.heap.size :: .ref T.heap.size :: rest, locked := none }) rfl hsize rfl rfl (rest := rest) rfl
    (by rw [hb]; exact d6) (by rw [hb]; exact d9) hout hRframes (by simp only [List.map_cons, List.sum_cons, hcat]; omega) hlocks
  obtain ⟨f1, f2⟩ := vx_frame hsame
  rw [hhp] at f1 f2
  have hWs : s.WarmedH U.vm := State.WarmedH.trans hW0 hW
  have hcl : s.vm.findClass cls = some ce.cls := by
    have h9 := hO.cls
    rw [hvm] at h9
    exact h9
  have hall : s.sameButNew ({ U with vm := s.vm } : State) locs mc ms := by
    subst hA
    obtain ⟨e1, e2⟩ := hsame
    rw [State.setFrames_setFrames] at e1
    have h2 : (T.setVm s.vm).sameButNew ({ U with vm := s.vm } : State) [] (0 + 1) (0 + 6) := ⟨e1, e2⟩
    have h3 := X.same.trans h2
    rw [List.append_nil] at h3
    exact h3.mono hc hs
  refine ⟨U, ?_, .threw T.heap.size, hrun, hend, Or.inr ⟨T.heap.size, rfl, cls, ce, locs, hx U hWs.alike f1 (fun q hq => f2 q hq (fun z hz => nomatch hz)), hce, hO.vm, hcl, hWs, hall, hf⟩⟩
  refine st1 _ ?_
  show Steps p.tables e below (T1.setTop { method := m, pc := pc + 3, locals := ls, stack := .ref T.heap.size :: rest, locked := none }) _
  jvm_step X₁.here [X₁.here.top, hexec, d3', Value.category]
  exact X₁.ldcString hexec (own := own) (text := text) (index := is) (a := sa) hown' hstr'.1 hstr'.2
    (g := { method := m, pc := pc + 4, locals := ls, stack := .ref T.heap.size :: .ref T.heap.size :: rest, locked := none }) rfl d4' _ hsteps
/-- 'throw new E("text")', the text by a wide index -/
theorem vx_throwSW {cc : ByteArray} {pc : Nat} (hexec : p.tables.exec = Jvm.exec) (hb : c.code = cc) (hl : l.stackTraces = false) {own cls text : String} {names : List String} {ik is ic mc ms sa : Nat} {A : Nat → Prop}
    (hown : s.vm.findClass own = some m.cls) (hcls : Bundle.fit cls = true) (hnames : ∀ n ∈ names, Bundle.fit n = true)
    (hk : (Cond.classLink own ik cls).before args s = true) (hini : (Cond.initialized cls).before args s = true) (hstr : vk_R own is text sa s) (hat : ∀ w ∈ vx_atS own ic cls names, w.before args s = true)
    (hgood : ∀ w ∈ Cond.classLink own ik cls :: Cond.initialized cls :: vx_atS own ic cls names, vx_ot w = true)
    (hU : vx_Zq Bundle.tN "UNASSIGNED_STACK" Bundle.steD A s s.heap) (hN : vx_Zq Bundle.tN "SUPPRESSED_SENTINEL" Bundle.listD A s s.heap) (hS : va_S A s.heap H locs) (hsize : ls.size = c.maxLocals)
    (d0 : decode cc pc = .ok (.new ik, 3)) (d3 : decode cc (pc + 3) = .ok (.dup, 1)) (d4 : decode cc (pc + 4) = .ok (.ldc_w is, 3)) (d7 : decode cc (pc + 7) = .ok (.invokespecial ic, 3)) (d10 : decode cc (pc + 10) = .ok (.athrow, 1))
    (hout : ∀ x ∈ c.exceptionTable.toList, covers x (pc + 10) = false)
    (hRframes : names.length + 3 < R.frames) (hRlocals : (rest.map fun v => v.category).sum + (13 * (names.length + 1) + 43) ≤ R.locals) (hRcells : cells + 1 ≤ R.cells) (hRslots : slots + 6 ≤ R.slots) (hlocks : meth.locks = false)
    (hx : ∀ t : State, s.vm.Alike t.vm → H.size ≤ t.heap.size → (∀ q : Nat, q < H.size → t.heap[q]? = H[q]?) → XC cls s t)
    (hf : ∀ z ∈ locs, free z.base) (hc : cells + 1 ≤ mc) (hs : slots + 6 ≤ ms) :
    W p l e R s m args below meth c H locs cells slots (vx_MQ below Qc XC args s mc ms free) (F0 m pc ls rest) := by
  intro T hT X
  have htr : e.platform.stackTraces = false := (show e.platform.stackTraces = l.stackTraces by rw [X.admits.platform]).trans hl
  have Y := vx_rebase X (R' := { frames := R.frames, locals := R.locals, cells := 1, slots := 6 }) (Nat.le_refl _) (Nat.le_refl _) hRcells hRslots
  obtain ⟨s', hA⟩ : ∃ z, z = (T.setVm s.vm).setFrames (.invoking m args :: below) := ⟨_, rfl⟩
  rw [← hA] at Y
  have hvm : s'.vm = s.vm := by rw [hA]; rfl
  have hhp : s'.heap = H := by rw [hA]; exact hT
  have hW0 : s.WarmedH s'.vm := by rw [hvm]; exact State.WarmedH.refl s
  have hat' : ∀ w ∈ vx_atS own ic cls names, w.before args s' = true := fun w hw => vx_ot_at hW0 hvm.symm (hgood w (List.mem_cons_of_mem _ (List.mem_cons_of_mem _ hw))) (hat w hw)
  have hk' : (Cond.classLink own ik cls).before args s' = true := vx_ot_at hW0 hvm.symm (hgood _ List.mem_cons_self) hk
  have hini' : (Cond.initialized cls).before args s' = true := vx_ot_at hW0 hvm.symm (hgood _ (List.mem_cons_of_mem _ List.mem_cons_self)) hini
  have hU' : vx_Zq Bundle.tN "UNASSIGNED_STACK" Bundle.steD A s' s'.heap := by rw [hhp]; exact vx_Zq.moved hW0.alike (hU.kept hS.2.1)
  have hN' : vx_Zq Bundle.tN "SUPPRESSED_SENTINEL" Bundle.listD A s' s'.heap := by rw [hhp]; exact vx_Zq.moved hW0.alike (hN.kept hS.2.1)
  have h : ∀ w ∈ Bundle.ownAtoms own ic cls names, w.before args s' = true := vx_own hat' (vx_isRefq hU'.1) (vx_isRefq hN'.1) hU'.2.word hN'.2.word
  have hown' : s'.vm.findClass own = some m.cls := by rw [hvm]; exact hown
  have hins : (Cond.instantiable cls 6).before args s' = true := h _ (by simp [Bundle.ownAtoms])
  obtain ⟨vm₁, cX, kX, hfX, hkX, -, -, X₁, st1⟩ := Y.newCold hexec (own := own) (C := cls) (index := ik) (n := 6) hown' hk' hins hini'
    (g := F0 m pc ls rest) rfl (by rw [hb]; exact d0) (Nat.le_refl _) (Nat.le_refl _)
  generalize hT1 : (T.setVm vm₁).pushCell { cls := cX, slots := kX.instanceTypes.map defaultValue, vm := .none } = T1 at X₁ st1
  have hcat : (Value.ref T.heap.size).category = 1 := rfl
  have hcellA : T1.heap[T.heap.size]? = some (freshCell cX kX) := by rw [← hT1]; exact State.heap_pushCell_size _ _
  have d3' : decode c.code (pc + 3) = .ok (.dup, 1) := by rw [hb]; exact d3
  have d4' : decode c.code (pc + 4) = .ok (.ldc_w is, 3) := by rw [hb]; exact d4
  have hstr' : vk_R own is text sa s' := vk_R.warm hW0 hstr
  obtain ⟨U, hsteps, hrun, hend, hW, hsame, ce, hce, hO⟩ := X₁.ctorThrowS hexec htr (own := own) (cls := cls) (names := names) (ic := ic) hown' hcls hnames h (fun x hx => nomatch hx) hfX hkX hcellA (by rw [hhp, hT]; exact Nat.le_refl _) (msg := .ref sa) rfl
    (g := { method := m, pc := pc + 7, locals := ls, stack := .ref sa :: .ref T.heap.size :: .ref T.heap.size :: rest, locked := none }) rfl hsize rfl rfl (rest := rest) rfl
    (by rw [hb]; exact d7) (by rw [hb]; exact d10) hout hRframes (by simp only [List.map_cons, List.sum_cons, hcat]; omega) hlocks
  obtain ⟨f1, f2⟩ := vx_frame hsame
  rw [hhp] at f1 f2
  have hWs : s.WarmedH U.vm := State.WarmedH.trans hW0 hW
  have hcl : s.vm.findClass cls = some ce.cls := by
    have h9 := hO.cls
    rw [hvm] at h9
    exact h9
  have hall : s.sameButNew ({ U with vm := s.vm } : State) locs mc ms := by
    subst hA
    obtain ⟨e1, e2⟩ := hsame
    rw [State.setFrames_setFrames] at e1
    have h2 : (T.setVm s.vm).sameButNew ({ U with vm := s.vm } : State) [] (0 + 1) (0 + 6) := ⟨e1, e2⟩
    have h3 := X.same.trans h2
    rw [List.append_nil] at h3
    exact h3.mono hc hs
  refine ⟨U, ?_, .threw T.heap.size, hrun, hend, Or.inr ⟨T.heap.size, rfl, cls, ce, locs, hx U hWs.alike f1 (fun q hq => f2 q hq (fun z hz => nomatch hz)), hce, hO.vm, hcl, hWs, hall, hf⟩⟩
  refine st1 _ ?_
  show Steps p.tables e below (T1.setTop { method := m, pc := pc + 3, locals := ls, stack := .ref T.heap.size :: rest, locked := none }) _
  jvm_step X₁.here [X₁.here.top, hexec, d3', Value.category]
  exact X₁.ldcStringW hexec (own := own) (text := text) (index := is) (a := sa) hown' hstr'.1 hstr'.2
    (g := { method := m, pc := pc + 4, locals := ls, stack := .ref T.heap.size :: .ref T.heap.size :: rest, locked := none }) rfl d4' _ hsteps
end Ends
section Bodies
variable {l : Launch}
theorem vx_ofW {y : MethodName} {ws ws' : List Cond} {rm : Room} {Pc : Array Value → State → Prop} {Qc : Array Value → State → Outcome → State → Prop} {XC : String → State → State → Prop} {mc ms : Nat} {free : Addr → Prop} {cc : ByteArray} {maxL : Nat} {ret : Option FieldType}
    (hy : plainName y.cls = true) (hw : ws = Cond.code y cc maxL ret :: ws')
    (body : ∀ p e s m args below meth c s₁, BodyLoose p l y (headSpec ws rm) cc maxL ret e s m args below meth c s₁ → c.maxLocals = maxL → (∀ x ∈ c.exceptionTable.toList, False) → Pc args s →
      W p l e (headSpec ws rm).room s m args below meth c s.heap [] 0 0 (vx_MQ below Qc XC args s mc ms free) (entryFrame m args maxL)) : vx_Met l y ws rm Pc Qc XC mc ms free := by
  refine MetFree.of_bodyS (code := cc) (maxLocals := maxL) (ret := ret) hy ?_ ?_
  · intro args s m h hn
    obtain ⟨meth, c, h1, h2, h3, h4, h5, h6, -, -⟩ := Cond.code_spec hn (atoms_spec (ws := ws) h _ (by rw [hw]; exact List.mem_cons_self))
    exact ⟨meth, c, h1, h2, h3, h4, h5, h6⟩
  · intro p e s m args below meth c s₁ B hml hP _
    have hh0 : s₁.heap = s.heap := by rw [B.state]; rfl
    have ht : ∀ x ∈ c.exceptionTable.toList, False := by
      obtain ⟨meth9, c9, h1, h2, -, -, -, -, h7, -⟩ := Cond.code_spec B.named (atoms_spec (ws := ws) B.pre _ (by rw [hw]; exact List.mem_cons_self))
      cases Option.some.inj (h1.symm.trans B.method)
      cases Option.some.inj (h2.symm.trans (Stand.of_body B).code)
      intro x hx
      rw [Array.isEmpty_iff.mp h7] at hx
      cases hx
    obtain ⟨t, a1, o, b1, b2, b3⟩ := body p e s m args below meth c s₁ B hml ht hP s₁ hh0 (Stand.of_body B)
    exact ⟨t, o, a1, b1, b2, b3⟩
/-- the table of a body with handlers -/
theorem vx_table {p : Program} {x y : MethodName} {S : Spec} {cc bytes : ByteArray} {maxL maxL' : Nat} {ret ret' : Option FieldType} {e : Env} {s s₁ : State} {m : MethodId} {args : Array Value} {below : List Frame} {meth : Method} {c : Code} {hh : List (Nat × Nat × Nat × Nat)}
    (B : BodyLoose p l y S cc maxL ret e s m args below meth c s₁) (h : (Cond.codeWith y bytes maxL' ret' hh).before args s = true) : c.exceptionTable.toList = tableOf hh := by
  obtain ⟨m9, meth9, c9, hn9, h1, h2, -, -, h6, -⟩ := Cond.codeWith_spec h
  cases Option.some.inj (hn9.symm.trans B.named)
  cases Option.some.inj (h1.symm.trans B.method)
  cases Option.some.inj (h2.symm.trans (Stand.of_body B).code)
  rw [← h6, table_eq]
end Bodies
end VXA
/-! ===== END ===== -/
/-! ===== BEGIN a static call of a method with an exception table ===== -/
section VXS
variable {p : Program} {l : Launch} {e : Env} {R : Room} {s : State} {m : MethodId} {args : Array Value} {below : List Frame} {meth : Method} {c : Code} {T : State} {H : Heap} {locs : List Loc} {cells slots : Nat}
abbrev vx_CSW (R : Room) (s : State) (args : Array Value) (own : String) (index : Nat) (y : MethodName) (bytes : ByteArray) (maxL : Nat) (ret : Option FieldType) (hh : List (Nat × Nat × Nat × Nat)) (ws : List Cond) (rm : Room) (mc ms n : Nat) : Prop :=
  (rm.cells = mc ∧ rm.slots = ms ∧ rm.frames + 1 ≤ R.frames ∧ 8 + (maxL + 11) + rm.locals ≤ R.locals ∧ (∀ w ∈ ws, ∀ (a' : Array Value) (U : State), s.WarmedH U.vm → w.before a' U = true) ∧ Cond.codeWith y bytes maxL ret hh ∈ ws) ∧
  (Cond.codeWith y bytes maxL ret hh).before args s = true ∧ (Cond.initialized y.cls).before args s = true ∧ (y.cls ≠ "java/lang/invoke/MethodHandle" ∧ y.cls ≠ "java/lang/invoke/VarHandle") ∧
  (∀ sig, parseMethodDescriptor y.desc = some sig → n = sig.parameters.length) ∧ (Cond.methodLink own index y).before args s = true ∧ (Cond.static y).before args s = true
theorem vx_cwSW {own : String} {index maxL mc ms : Nat} {y : MethodName} {bytes : ByteArray} {ret : Option FieldType} {hh : List (Nat × Nat × Nat × Nat)} {Ts ws ws' : List Cond} {rm : Room} (n : Nat) (ht : ∀ w ∈ Ts, w.before args s = true) (hT : GoodIn Ts (va_wsS own index y ws)) (hw : ws = Cond.codeWith y bytes maxL ret hh :: ws') (hrc : rm.cells = mc) (hrs : rm.slots = ms)
    (hd : y.cls ≠ "java/lang/invoke/MethodHandle" ∧ y.cls ≠ "java/lang/invoke/VarHandle" ∧ (parseMethodDescriptor y.desc).map (fun d => d.parameters.length) = some n) (hR : rm.frames + 1 ≤ R.frames ∧ 8 + (maxL + 11) + rm.locals ≤ R.locals) :
    vx_CSW R s args own index y bytes maxL ret hh ws rm mc ms n := by
  have ok : ∀ w ∈ va_wsS own index y ws, w.before args s = true := fun w h => ht w (hT w h).1
  have hG : GoodIn Ts ws := fun w h => hT w (by unfold va_wsS; exact List.mem_append_right _ h)
  have hc : Cond.codeWith y bytes maxL ret hh ∈ ws := by rw [hw]; exact List.mem_cons_self
  refine ⟨⟨hrc, hrs, hR.1, hR.2, pay_in ht hG, hc⟩, ht _ (hG _ hc).1, ok _ (by simp [va_wsS]), ⟨hd.1, hd.2.1⟩, fun sig h => ?_, ok _ (by simp [va_wsS]), ok _ (by simp [va_wsS])⟩
  have h2 := hd.2.2
  rw [h] at h2
  exact (Option.some.inj h2).symm
theorem vx_callSW (X : Stand p l e R s m args below meth c T locs cells slots) (hexec : p.tables.exec = Jvm.exec) {own : String} {index : Nat} {y : MethodName} {bytes : ByteArray} {maxL : Nat} {ret : Option FieldType} {hh : List (Nat × Nat × Nat × Nat)}
    (hown : s.vm.findClass own = some m.cls) (hlink : (Cond.methodLink own index y).before args s = true) (hstat : (Cond.static y).before args s = true) (hinit : (Cond.initialized y.cls).before args s = true)
    (hcode : (Cond.codeWith y bytes maxL ret hh).before args s = true) (hy : y.cls ≠ "java/lang/invoke/MethodHandle" ∧ y.cls ≠ "java/lang/invoke/VarHandle")
    {W9 : Nat} {Pre : Pt → Array Value → Prop} {Post : Pt → Array Value → Option Value → Pt → Prop} (hK : Back l R p e below s args y 3 W9 Pre Post)
    {g : JFrame} (hg : g.method = m) (hsize : g.locals.size = c.maxLocals) {argsL rest : List Value} (hlen : ∀ sig, parseMethodDescriptor y.desc = some sig → argsL.length = sig.parameters.length)
    (hstack : g.stack = argsL.reverse ++ rest) (hW : 2 * g.monitorRoom + (rest.map fun v => v.category).sum ≤ W9) (hdg : decode c.code g.pc = .ok (.invokestatic index, 3))
    (hpre : ∀ vm₁, s.WarmedH vm₁ → Pre ⟨T.setVm vm₁, locs, cells, slots⟩ argsL.toArray) :
    ∃ (v : Option Value) (vm₁ : Vm) (B : Pt), s.WarmedH vm₁ ∧ Stand p l e R s m args below meth c B.U B.locs B.cells B.slots ∧ Post ⟨T.setVm vm₁, locs, cells, slots⟩ argsL.toArray v B ∧
      ∀ target, Steps p.tables e below (B.U.setTop { g with pc := g.pc + 3, stack := v.toList ++ rest }) target → Steps p.tables e below (T.setTop g) target := by
  obtain ⟨mk, methM, cM, hnamed, hmethM, -, -, -, -, -, -, hsigM⟩ := Cond.codeWith_spec hcode
  have hstatic : methM.isStatic = true := Cond.static_spec hnamed hmethM hstat
  obtain ⟨kP, hkP, -⟩ := className_of_methodNamed hnamed
  have hinitP : kP.init = .initialized := Cond.initialized_spec (findClass_of_methodNamed hnamed) hkP hinit
  obtain ⟨vm₁, X₁, hstep₁⟩ := X.invokestatic hexec hown hlink hnamed hmethM hstatic hkP hinitP hy (g := g) hg (argsL := argsL) (rest := rest) (hlen _ hsigM) hstack hdg
  obtain ⟨v, B, X', hpost, hsteps⟩ := hK m meth c ⟨T.setVm vm₁, locs, cells, slots⟩ { g with stack := rest } (.invokestatic index) mk argsL.toArray X₁ hg hsize hdg hW (X₁.named hnamed) (hpre vm₁ X₁.warmed)
  exact ⟨v, vm₁, B, X₁.warmed, X', hpost, fun target h => hstep₁ _ fun acts => by rw [doInvoke_state]; exact hsteps.trans h⟩
theorem vx_runSW {y : MethodName} {bytes cc : ByteArray} {maxL nL mc ms n index : Nat} {ret : Option FieldType} {hh : List (Nat × Nat × Nat × Nat)} {ws : List Cond} {rm : Room} {Pc : Array Value → State → Prop} {Qc : Array Value → State → Outcome → State → Prop} {free : Addr → Prop} {Ts : List Cond} {own : String} {As rest : List Value} {g : JFrame}
    (S : CallFix p m c cc nL s args Ts own) (hM : Met l y ws rm Pc Qc mc ms free) (cw : vx_CSW R s args own index y bytes maxL ret hh ws rm mc ms n) (hp : PreS s H Pc As)
    (hg : g.method = m) (hn : As.length = n) (hsize : g.locals.size = nL) (hstack : g.stack = As.reverse ++ rest) (hW : 2 * g.monitorRoom + (rest.map fun v => v.category).sum ≤ 8) (hdg : decode cc g.pc = .ok (.invokestatic index, 3)) (hf : cells + mc ≤ R.cells ∧ slots + ms ≤ R.slots) :
    va_Run p l e R s m args below meth c H locs cells slots mc ms g rest (Qc As.toArray) (free) := by
  obtain ⟨⟨hrc, hrs, hfr, hlo, hws, hcw⟩, hcode, hini, hy, hlen, hl, hstt⟩ := cw
  have hK : Back l R p e below s args y 3 8 (PreOf R mc ms Pc) (PostOf Qc mc ms free) := va_backW (hh := hh) (bytes := bytes) (maxL := maxL) (ret := ret) hM hp.1 hrc hrs hfr hlo hws hcw (fun a' U hW => word_at hW (Or.inl (by first | rfl | simp [Cond.onTables, Cond.keeps, Cond.steady])) hini)
  obtain ⟨hx, hb, hml, ho, -⟩ := S
  intro T hT X
  obtain ⟨v, vm₁, ⟨U', l2, c2, s2⟩, hW₁, X', ⟨g', mk, t, L, e1, e2, hq, h1, hL, h2, h3⟩, st⟩ := vx_callSW X hx (hh := hh) (bytes := bytes) (maxL := maxL) (ret := ret) ho hl hstt hini hcode hy hK hg (hsize.trans hml.symm) (argsL := As) (rest := rest) (fun sig h => hn.trans (hlen sig h)) hstack hW (by rw [hb]; exact hdg)
    (fun vm₁ hW₁ => ⟨hf.1, hf.2, hp.2 (T.setVm vm₁) hT hW₁⟩)
  dsimp only [Pt.U, Pt.locs, Pt.cells, Pt.slots] at X' e1 e2 h1 h2 h3 st
  subst h1; subst h2; subst h3
  exact ⟨v, (T.setVm vm₁).calling g' mk As.toArray, t, U', L, hT, X', hL, e1, e2, hq, st⟩
/-- not caught here, past rows that name other classes: it goes on to the caller -/
theorem vx_outP {p : Program} {l : Launch} {e : Env} {R : Room} {s : State} {m : MethodId} {args : Array Value} {below : List Frame} {meth : Method} {c : Code} {H : Heap} {locs : List Loc} {cells slots : Nat} {free : Addr → Prop} {ls : Array Slot} {rest : List Value} {Qc : Array Value → State → Outcome → State → Prop} {XC : String → State → State → Prop}
    {pc : Nat} {own E : String} {ce : Cell} {q : Addr} {mc ms : Nat} (hown : s.vm.findClass own = some m.cls) (hlocks : meth.locks = false)
    (hpass : ∀ z ∈ c.exceptionTable.toList, covers z pc = false ∨ (z.catchType ≠ 0 ∧ ∃ nm : String, (Cond.classLink own z.catchType nm).before args s = true ∧ va_Nc E nm s)) (hcell : H[q]? = some ce) (hv : ce.vm = .none) (hcl : s.vm.findClass E = some ce.cls)
    (hx : ∀ t : State, t.heap = H → s.vm.Alike t.vm → XC E s t) (hf : ∀ z ∈ locs, free z.base) (hc : cells ≤ mc) (hs : slots ≤ ms) :
    vx_W p l e R s m args below meth c H locs cells slots (vx_MQ below Qc XC args s mc ms free) (F0 m pc ls rest) q := by
  intro T hT X
  have hpl : e.platform.magicAccessors = ({} : Platform).magicAccessors := by rw [X.admits.platform]
  obtain ⟨vm', hW', X', st⟩ := X.outThrough hlocks q (g := F0 m pc ls rest) rfl rfl rfl (cell := ce) (by rw [hT]; exact hcell) (by rw [hv]; rfl)
    (by obtain ⟨k9, h9, -⟩ := Vm.findClass_spec hcl; exact ⟨k9, h9⟩) (fun z hz => by
      rcases hpass z hz with h | ⟨hz0, nm, hl1, hn1⟩
      · exact Or.inl h
      · obtain ⟨c6, hc6, hcl6⟩ := Cond.classLink_spec hown hl1 e.platform hpl
        obtain ⟨a8, b8, h1, h2, h3⟩ := hn1
        cases Option.some.inj (h1.symm.trans hcl)
        cases Option.some.inj (h2.symm.trans hc6)
        exact Or.inr ⟨hz0, _, hcl6, h3⟩)
  obtain ⟨g₀, hfr⟩ := X'.frames_eq
  have hcell9 : ((T.setVm vm').setFrames (.throwing q :: below)).heap[q]? = some ce := by
    show T.heap[q]? = some ce
    rw [hT]; exact hcell
  have hend : Ended ((T.setVm vm').setFrames (.throwing q :: below)) below (.threw q) := State.frames_setFrames _ (State.cur_lt_of_frames hfr)
  refine ⟨(T.setVm vm').setFrames (.throwing q :: below), ?_, .threw q, X'.here.running, hend, Or.inr ⟨q, rfl, E, ce, locs, hx _ hT (X'.ends _).1.alike, hcell9, hv, hcl, (X'.ends _).1, (X'.ends _).2.mono hc hs, hf⟩⟩
  rw [X.pushThrowing_eq]
  exact st
/-- a thing of a world lies in the heap -/
theorem vx_lt {D : va_G} {cl : List vw_C} {ws : va_W} {H1 : Heap} (h : va_P D cl ws H1) {k : Nat} {q : Nat × va_E} (hk : ws[k]? = some q) : q.1 < H1.size := (h k q hk).lt
end VXS
/-! ===== END ===== -/
/-! ===== BEGIN methods with a table of their own: called by a name, returning or throwing ===== -/
section VXH
/-! vx_backW, vx_callVX, vx_callSX, vx_callVW, vx_runVW, vx_runVX, vx_runSX, vx_ofWH follow the same proofs as their sisters above (Free/Laws.lean, Shelf42/LK1.lean); vx_outP calls Shelf42/NT130.lean (outThrough). -/
section
variable {l : Launch} {R : Room} {p : Program} {e : Env} {below : List Frame} {s : State} {sargs : Array Value} {y : MethodName} {len W9 : Nat}
theorem vx_backW {ws : List Cond} {rm : Room} {Pc : Array Value → State → Prop} {Qc : Array Value → State → Outcome → State → Prop} {XC : String → State → State → Prop} {mc ms : Nat} {free : Addr → Prop} {bytes : ByteArray} {maxL : Nat} {ret : Option FieldType} {hh : List (Nat × Nat × Nat × Nat)}
    (hM : vx_Met l y ws rm Pc Qc XC mc ms free) (hblind : FrameBlind Pc) (hrc : rm.cells = mc) (hrs : rm.slots = ms)
    (hframes : rm.frames + 1 ≤ R.frames) (hlocals : W9 + (maxL + 11) + rm.locals ≤ R.locals)
    (hws : ∀ w ∈ ws, ∀ a' U, s.WarmedH U.vm → w.before a' U = true) (hcode : Cond.codeWith y bytes maxL ret hh ∈ ws) (hinit : ∀ a' U, s.WarmedH U.vm → (Cond.initialized y.cls).before a' U = true) :
    vx_Back l R p e below s sargs y len W9 (PreOf R mc ms Pc) (PostOf Qc mc ms free) (vx_Post XC mc ms free) := by
  intro m meth c A g ig mk a X hg hsize hdg hW hn hp
  have h1 : (headSpec ws rm).pre.before a A.U = true := atoms_intro fun w hw => hws w hw _ _ X.warmed
  have h2 : (Cond.codeWith y bytes maxL ret hh).before a A.U = true := hws _ hcode _ _ X.warmed
  have h3 : (Cond.initialized y.cls).before a A.U = true := hinit _ _ X.warmed
  have h4 : A.cells + (headSpec ws rm).room.cells ≤ R.cells := by rw [show (headSpec ws rm).room.cells = mc from hrc]; exact hp.1
  have h5 : A.slots + (headSpec ws rm).room.slots ≤ R.slots := by rw [show (headSpec ws rm).room.slots = ms from hrs]; exact hp.2.1
  have hPc : Pc a (A.U.calling g mk a) := hblind _ _ _ _ hp.2.2
  obtain ⟨U, Ls, c0, s0⟩ := A
  dsimp only [Pt.U, Pt.locs, Pt.cells, Pt.slots] at h1 h2 h3 h4 h5 X hn hPc ⊢
  obtain ⟨m9, methY, cY, hn9, hmY, hcY, -, hlY, -⟩ := Cond.codeWith_spec h2
  cases Option.some.inj (hn9.symm.trans hn)
  obtain ⟨kY, hkY, -⟩ := className_of_methodNamed hn
  have hinitY : kY.init = .initialized := Cond.initialized_spec (findClass_of_methodNamed hn) hkY h3
  have h : At U g.method c below := by rw [hg]; exact X.here
  have hlocals9 : W9 + (maxL + 11) + (headSpec ws rm).room.locals ≤ R.locals := hlocals
  have happ : (headSpec ws rm).appliesLoose y e.platform (U.calling g mk a) = true :=
    Spec.appliesLoose_calling (g := g) h hdg hn hkY hinitY
      (X.room_calling (g := g) (R' := (headSpec ws rm).room) hsize hmY hcY hframes (by rw [hlY]; omega) h4 h5) h1
  obtain ⟨mid, hmid⟩ := h.above
  have hfr : (U.setTop g).frames = (.java g :: mid) ++ below := by rw [State.frames_setTop' g h.top, hmid]; rfl
  obtain ⟨o, s₂, hsteps, -, hend, hq⟩ := Steps.callFree hM p X.admits X.cas X.clock (acts := []) hfr happ hPc trivial
  have hq' : vx_Q Qc XC mc ms free a (U.calling g mk a) o s₂ := hq
  rw [State.frames_setTop' g h.top] at hend
  obtain ⟨g₀, hg0⟩ := Option.isSome_iff_exists.mp h.top
  obtain ⟨r, hr⟩ := State.topJava?_eq_some.mp hg0
  have hr' : (({ U with heap := s₂.heap, slotsUsed := s₂.slotsUsed } : State).setVm s₂.vm).frames = .java g₀ :: r := hr
  rcases hq' with ⟨hqc, L, hfe, hL⟩ | ⟨q, rfl, E, ce, L, hx, hce, hcv, hcl, hW₂, hsm, hL⟩
  · obtain ⟨⟨v, rfl⟩, hW₂, e2, q2, q3, q4, q5, q6⟩ := id hfe
    have e3 : s₂ = ({ (U.calling g mk a).setFrames s₂.frames with heap := s₂.heap, slotsUsed := s₂.slotsUsed } : State).setVm s₂.vm := by
      have : s₂ = ({ s₂ with vm := (U.calling g mk a).vm } : State).setVm s₂.vm := rfl
      rw [e2] at this
      exact this
    obtain ⟨c₂, i₂, len₂, hc₂, hd₂, hf₂⟩ := hend
    have hW' : U.WarmedH s₂.vm := hW₂
    have hcc : c₂ = c := by
      have h1 : s₂.code? g.method = U.code? g.method := by
        rw [State.code?_eq, State.code?_eq, hW'.alike.method?]
      exact Option.some.inj (hc₂.symm.trans (h1.trans h.code))
    subst hcc
    have hlen : len₂ = len := by rw [hdg] at hd₂; cases hd₂; rfl
    subst hlen
    have hs₂ : s₂ = (({ U with heap := s₂.heap, slotsUsed := s₂.slotsUsed } : State).setVm s₂.vm).setTop { g with pc := g.pc + len₂, stack := v.toList ++ g.stack } := by
      refine e3.trans ?_
      rw [hf₂, State.calling_eq h.top, State.setFrames_setFrames, State.setTop_of_frames _ hr', hr]
      rfl
    have hsame : U.sameButNew ({ U with heap := s₂.heap, slotsUsed := s₂.slotsUsed } : State) L mc ms := by
      refine ⟨?_, q2, q3, q4, q5, q6⟩
      obtain ⟨t, ht, -⟩ := State.frames_cons hr
      show ({ U with heap := s₂.heap, slotsUsed := s₂.slotsUsed } : State) = { U.setFrames U.frames with heap := s₂.heap, slotsUsed := s₂.slotsUsed }
      rw [State.setFrames_self ht]
    subst hg
    refine Or.inl ⟨v, ⟨(({ U with heap := s₂.heap, slotsUsed := s₂.slotsUsed } : State).setVm s₂.vm), Ls ++ L, c0 + mc, s0 + ms⟩,
      ⟨X.admits, X.cas, X.clock, X.frames, X.room, X.hears, X.method, X.code, (X.here.setHeapUsed s₂.heap s₂.slotsUsed).setVm hW'.alike, X.tail, State.WarmedH.trans X.warmed hW', X.limits, X.bytes, X.same.trans (hsame.setVm s.vm)⟩,
      ⟨g, mk, s₂, L, rfl, rfl, hqc, rfl, hL, rfl, rfl⟩, ?_⟩
    show Steps p.tables e below _ ((({ U with heap := s₂.heap, slotsUsed := s₂.slotsUsed } : State).setVm s₂.vm).setTop { g with pc := g.pc + len₂, stack := v.toList ++ g.stack })
    rw [← hs₂]
    exact hsteps
  · obtain ⟨e2, q2, q3, q4, q5, q6⟩ := id hsm
    have e3 : s₂ = ({ (U.calling g mk a).setFrames s₂.frames with heap := s₂.heap, slotsUsed := s₂.slotsUsed } : State).setVm s₂.vm := by
      have : s₂ = ({ s₂ with vm := (U.calling g mk a).vm } : State).setVm s₂.vm := rfl
      rw [e2] at this
      exact this
    have hf₂ : s₂.frames = .throwing q :: .java g :: U.frames.tail := hend
    have hW' : U.WarmedH s₂.vm := hW₂
    have hs₂ : s₂ = ((({ U with heap := s₂.heap, slotsUsed := s₂.slotsUsed } : State).setVm s₂.vm).setTop g).pushFrame (.throwing q) := by
      refine e3.trans ?_
      rw [hf₂, State.calling_eq h.top, State.setFrames_setFrames, State.pushFrame, State.frames_setTop _ hr', State.setTop_of_frames _ hr', State.setFrames_setFrames, hr]
      rfl
    have hsame : U.sameButNew ({ U with heap := s₂.heap, slotsUsed := s₂.slotsUsed } : State) L mc ms := by
      refine ⟨?_, q2, q3, q4, q5, q6⟩
      obtain ⟨t, ht, -⟩ := State.frames_cons hr
      show ({ U with heap := s₂.heap, slotsUsed := s₂.slotsUsed } : State) = { U.setFrames U.frames with heap := s₂.heap, slotsUsed := s₂.slotsUsed }
      rw [State.setFrames_self ht]
    subst hg
    refine Or.inr ⟨q, ⟨(({ U with heap := s₂.heap, slotsUsed := s₂.slotsUsed } : State).setVm s₂.vm), Ls ++ L, c0 + mc, s0 + ms⟩,
      ⟨X.admits, X.cas, X.clock, X.frames, X.room, X.hears, X.method, X.code, (X.here.setHeapUsed s₂.heap s₂.slotsUsed).setVm hW'.alike, X.tail, State.WarmedH.trans X.warmed hW', X.limits, X.bytes, X.same.trans (hsame.setVm s.vm)⟩,
      ⟨g, mk, s₂, L, E, ce, rfl, rfl, hx, hce, hcv, hcl, rfl, hL, rfl, rfl⟩, ?_⟩
    show Steps p.tables e below _ (((({ U with heap := s₂.heap, slotsUsed := s₂.slotsUsed } : State).setVm s₂.vm).setTop g).pushFrame (.throwing q))
    rw [← hs₂]
    exact hsteps
end
variable {p : Program} {l : Launch} {e : Env} {R : Room} {s : State} {m : MethodId} {args : Array Value} {below : List Frame} {meth : Method} {c : Code} {T : State} {H : Heap} {locs : List Loc} {cells slots : Nat}
theorem vx_callVX (X : Stand p l e R s m args below meth c T locs cells slots) (hexec : p.tables.exec = Jvm.exec) {own C : String} {index : Nat} {y : MethodName} {bytes : ByteArray} {maxL : Nat} {ret : Option FieldType} {hh : List (Nat × Nat × Nat × Nat)}
    (hown : s.vm.findClass own = some m.cls) (hlink : (Cond.methodLink own index y).before args s = true) (hinst : (Cond.instanceMethod y).before args s = true) (hsel : (Cond.selects C y y).before args s = true)
    (hcode : (Cond.codeWith y bytes maxL ret hh).before args s = true) (hy : y.cls ≠ "java/lang/invoke/MethodHandle" ∧ y.cls ≠ "java/lang/invoke/VarHandle")
    {W9 : Nat} {Pre : Pt → Array Value → Prop} {Post : Pt → Array Value → Option Value → Pt → Prop} {PostX : Pt → Array Value → Addr → Pt → Prop} (hK : vx_Back l R p e below s args y 3 W9 Pre Post PostX)
    {b : Addr} {cellB : Cell} (hcell : T.heap[b]? = some cellB) (hobj : cellB.vm.isStatics = false) (hcls : s.vm.findClass C = some cellB.cls)
    {g : JFrame} (hg : g.method = m) (hsize : g.locals.size = c.maxLocals) {argsL rest : List Value} (hlen : ∀ sig, parseMethodDescriptor y.desc = some sig → argsL.length = sig.parameters.length)
    (hstack : g.stack = argsL.reverse ++ .ref b :: rest) (hW : 2 * g.monitorRoom + (rest.map fun v => v.category).sum ≤ W9) (hdg : decode c.code g.pc = .ok (.invokevirtual index, 3))
    (hpre : ∀ vm₁, s.WarmedH vm₁ → Pre ⟨T.setVm vm₁, locs, cells, slots⟩ (Value.ref b :: argsL).toArray) :
    (∃ (v : Option Value) (vm₁ : Vm) (B : Pt), s.WarmedH vm₁ ∧ Stand p l e R s m args below meth c B.U B.locs B.cells B.slots ∧ Post ⟨T.setVm vm₁, locs, cells, slots⟩ (Value.ref b :: argsL).toArray v B ∧
      ∀ target, Steps p.tables e below (B.U.setTop { g with pc := g.pc + 3, stack := v.toList ++ rest }) target → Steps p.tables e below (T.setTop g) target) ∨
    (∃ (q : Addr) (vm₁ : Vm) (B : Pt), s.WarmedH vm₁ ∧ Stand p l e R s m args below meth c B.U B.locs B.cells B.slots ∧ PostX ⟨T.setVm vm₁, locs, cells, slots⟩ (Value.ref b :: argsL).toArray q B ∧
      Steps p.tables e below (T.setTop g) ((B.U.setTop { g with stack := rest }).pushFrame (.throwing q))) := by
  obtain ⟨mk, methM, hnamed, hmethM, hstM, habM⟩ := Cond.instanceMethod_spec hinst
  obtain ⟨m8, methM', cM, hn8, hmethM', -, -, -, -, -, -, hsigM⟩ := Cond.codeWith_spec hcode
  cases Option.some.inj (hn8.symm.trans hnamed)
  cases hmethM.symm.trans hmethM'
  obtain ⟨c2, r2, m2, q1, q2, q3, q4, kP, hkP, hkPi⟩ := Cond.selects_spec hsel
  cases hcls.symm.trans q1
  cases (State.methodFound?_of_named hnamed hy).symm.trans q2
  cases hnamed.symm.trans q3
  have hselP : selectMethod e.platform s.vm cellB.cls mk = .method mk := by rw [Launch.admits_selectMethod X.admits]; exact q4
  obtain ⟨vm₁, X₁, hstep₁⟩ := X.invokevirtual hexec hown hlink hnamed hmethM hstM hkP hkPi hy (a := b) (cell := cellB) hcell
    (fun z h => by rw [h] at hobj; cases hobj) hselP hmethM habM hkP hkPi (g := g) hg (argsL := argsL) (rest := rest) (hlen _ hsigM) hstack hdg
  rcases hK m meth c ⟨T.setVm vm₁, locs, cells, slots⟩ { g with stack := rest } (.invokevirtual index) mk (Value.ref b :: argsL).toArray X₁ hg hsize hdg hW (X₁.named hnamed) (hpre vm₁ X₁.warmed) with ⟨v, B, X', hpost, hsteps⟩ | ⟨q, B, X', hpost, hsteps⟩
  · exact Or.inl ⟨v, vm₁, B, X₁.warmed, X', hpost, fun target h => hstep₁ _ fun acts => by rw [doInvoke_state]; exact hsteps.trans h⟩
  · exact Or.inr ⟨q, vm₁, B, X₁.warmed, X', hpost, hstep₁ _ fun acts => by rw [doInvoke_state]; exact hsteps⟩
theorem vx_callSX (X : Stand p l e R s m args below meth c T locs cells slots) (hexec : p.tables.exec = Jvm.exec) {own : String} {index : Nat} {y : MethodName} {bytes : ByteArray} {maxL : Nat} {ret : Option FieldType} {hh : List (Nat × Nat × Nat × Nat)}
    (hown : s.vm.findClass own = some m.cls) (hlink : (Cond.methodLink own index y).before args s = true) (hstat : (Cond.static y).before args s = true) (hinit : (Cond.initialized y.cls).before args s = true)
    (hcode : (Cond.codeWith y bytes maxL ret hh).before args s = true) (hy : y.cls ≠ "java/lang/invoke/MethodHandle" ∧ y.cls ≠ "java/lang/invoke/VarHandle")
    {W9 : Nat} {Pre : Pt → Array Value → Prop} {Post : Pt → Array Value → Option Value → Pt → Prop} {PostX : Pt → Array Value → Addr → Pt → Prop} (hK : vx_Back l R p e below s args y 3 W9 Pre Post PostX)
    {g : JFrame} (hg : g.method = m) (hsize : g.locals.size = c.maxLocals) {argsL rest : List Value} (hlen : ∀ sig, parseMethodDescriptor y.desc = some sig → argsL.length = sig.parameters.length)
    (hstack : g.stack = argsL.reverse ++ rest) (hW : 2 * g.monitorRoom + (rest.map fun v => v.category).sum ≤ W9) (hdg : decode c.code g.pc = .ok (.invokestatic index, 3))
    (hpre : ∀ vm₁, s.WarmedH vm₁ → Pre ⟨T.setVm vm₁, locs, cells, slots⟩ argsL.toArray) :
    (∃ (v : Option Value) (vm₁ : Vm) (B : Pt), s.WarmedH vm₁ ∧ Stand p l e R s m args below meth c B.U B.locs B.cells B.slots ∧ Post ⟨T.setVm vm₁, locs, cells, slots⟩ argsL.toArray v B ∧
      ∀ target, Steps p.tables e below (B.U.setTop { g with pc := g.pc + 3, stack := v.toList ++ rest }) target → Steps p.tables e below (T.setTop g) target) ∨
    (∃ (q : Addr) (vm₁ : Vm) (B : Pt), s.WarmedH vm₁ ∧ Stand p l e R s m args below meth c B.U B.locs B.cells B.slots ∧ PostX ⟨T.setVm vm₁, locs, cells, slots⟩ argsL.toArray q B ∧
      Steps p.tables e below (T.setTop g) ((B.U.setTop { g with stack := rest }).pushFrame (.throwing q))) := by
  obtain ⟨mk, methM, cM, hnamed, hmethM, -, -, -, -, -, -, hsigM⟩ := Cond.codeWith_spec hcode
  have hstatic : methM.isStatic = true := Cond.static_spec hnamed hmethM hstat
  obtain ⟨kP, hkP, -⟩ := className_of_methodNamed hnamed
  have hinitP : kP.init = .initialized := Cond.initialized_spec (findClass_of_methodNamed hnamed) hkP hinit
  obtain ⟨vm₁, X₁, hstep₁⟩ := X.invokestatic hexec hown hlink hnamed hmethM hstatic hkP hinitP hy (g := g) hg (argsL := argsL) (rest := rest) (hlen _ hsigM) hstack hdg
  rcases hK m meth c ⟨T.setVm vm₁, locs, cells, slots⟩ { g with stack := rest } (.invokestatic index) mk argsL.toArray X₁ hg hsize hdg hW (X₁.named hnamed) (hpre vm₁ X₁.warmed) with ⟨v, B, X', hpost, hsteps⟩ | ⟨q, B, X', hpost, hsteps⟩
  · exact Or.inl ⟨v, vm₁, B, X₁.warmed, X', hpost, fun target h => hstep₁ _ fun acts => by rw [doInvoke_state]; exact hsteps.trans h⟩
  · exact Or.inr ⟨q, vm₁, B, X₁.warmed, X', hpost, hstep₁ _ fun acts => by rw [doInvoke_state]; exact hsteps⟩
theorem vx_callVW (X : Stand p l e R s m args below meth c T locs cells slots) (hexec : p.tables.exec = Jvm.exec) {own C : String} {index : Nat} {y : MethodName} {bytes : ByteArray} {maxL : Nat} {ret : Option FieldType} {hh : List (Nat × Nat × Nat × Nat)}
    (hown : s.vm.findClass own = some m.cls) (hlink : (Cond.methodLink own index y).before args s = true) (hinst : (Cond.instanceMethod y).before args s = true) (hsel : (Cond.selects C y y).before args s = true)
    (hcode : (Cond.codeWith y bytes maxL ret hh).before args s = true) (hy : y.cls ≠ "java/lang/invoke/MethodHandle" ∧ y.cls ≠ "java/lang/invoke/VarHandle")
    {W9 : Nat} {Pre : Pt → Array Value → Prop} {Post : Pt → Array Value → Option Value → Pt → Prop} (hK : Back l R p e below s args y 3 W9 Pre Post)
    {b : Addr} {cellB : Cell} (hcell : T.heap[b]? = some cellB) (hobj : cellB.vm.isStatics = false) (hcls : s.vm.findClass C = some cellB.cls)
    {g : JFrame} (hg : g.method = m) (hsize : g.locals.size = c.maxLocals) {argsL rest : List Value} (hlen : ∀ sig, parseMethodDescriptor y.desc = some sig → argsL.length = sig.parameters.length)
    (hstack : g.stack = argsL.reverse ++ .ref b :: rest) (hW : 2 * g.monitorRoom + (rest.map fun v => v.category).sum ≤ W9) (hdg : decode c.code g.pc = .ok (.invokevirtual index, 3))
    (hpre : ∀ vm₁, s.WarmedH vm₁ → Pre ⟨T.setVm vm₁, locs, cells, slots⟩ (Value.ref b :: argsL).toArray) :
    ∃ (v : Option Value) (vm₁ : Vm) (B : Pt), s.WarmedH vm₁ ∧ Stand p l e R s m args below meth c B.U B.locs B.cells B.slots ∧ Post ⟨T.setVm vm₁, locs, cells, slots⟩ (Value.ref b :: argsL).toArray v B ∧
      ∀ target, Steps p.tables e below (B.U.setTop { g with pc := g.pc + 3, stack := v.toList ++ rest }) target → Steps p.tables e below (T.setTop g) target := by
  obtain ⟨mk, methM, hnamed, hmethM, hstM, habM⟩ := Cond.instanceMethod_spec hinst
  obtain ⟨m8, methM', cM, hn8, hmethM', -, -, -, -, -, -, hsigM⟩ := Cond.codeWith_spec hcode
  cases Option.some.inj (hn8.symm.trans hnamed)
  cases hmethM.symm.trans hmethM'
  obtain ⟨c2, r2, m2, q1, q2, q3, q4, kP, hkP, hkPi⟩ := Cond.selects_spec hsel
  cases hcls.symm.trans q1
  cases (State.methodFound?_of_named hnamed hy).symm.trans q2
  cases hnamed.symm.trans q3
  have hselP : selectMethod e.platform s.vm cellB.cls mk = .method mk := by rw [Launch.admits_selectMethod X.admits]; exact q4
  obtain ⟨vm₁, X₁, hstep₁⟩ := X.invokevirtual hexec hown hlink hnamed hmethM hstM hkP hkPi hy (a := b) (cell := cellB) hcell
    (fun z h => by rw [h] at hobj; cases hobj) hselP hmethM habM hkP hkPi (g := g) hg (argsL := argsL) (rest := rest) (hlen _ hsigM) hstack hdg
  obtain ⟨v, B, X', hpost, hsteps⟩ := hK m meth c ⟨T.setVm vm₁, locs, cells, slots⟩ { g with stack := rest } (.invokevirtual index) mk (Value.ref b :: argsL).toArray X₁ hg hsize hdg hW (X₁.named hnamed) (hpre vm₁ X₁.warmed)
  exact ⟨v, vm₁, B, X₁.warmed, X', hpost, fun target h => hstep₁ _ fun acts => by rw [doInvoke_state]; exact hsteps.trans h⟩
abbrev vx_CVW (R : Room) (s : State) (args : Array Value) (own C : String) (index : Nat) (y : MethodName) (bytes : ByteArray) (maxL : Nat) (ret : Option FieldType) (hh : List (Nat × Nat × Nat × Nat)) (ws : List Cond) (rm : Room) (mc ms n : Nat) : Prop :=
  (rm.cells = mc ∧ rm.slots = ms ∧ rm.frames + 1 ≤ R.frames ∧ 8 + (maxL + 11) + rm.locals ≤ R.locals ∧ (∀ w ∈ ws, ∀ (a' : Array Value) (U : State), s.WarmedH U.vm → w.before a' U = true) ∧ Cond.codeWith y bytes maxL ret hh ∈ ws) ∧
  (Cond.codeWith y bytes maxL ret hh).before args s = true ∧ (Cond.initialized y.cls).before args s = true ∧ (y.cls ≠ "java/lang/invoke/MethodHandle" ∧ y.cls ≠ "java/lang/invoke/VarHandle") ∧
  (∀ sig, parseMethodDescriptor y.desc = some sig → n = sig.parameters.length) ∧ (Cond.methodLink own index y).before args s = true ∧ (Cond.instanceMethod y).before args s = true ∧ (Cond.selects C y y).before args s = true
theorem vx_cwVW {own C : String} {index maxL mc ms : Nat} {y : MethodName} {bytes : ByteArray} {ret : Option FieldType} {hh : List (Nat × Nat × Nat × Nat)} {Ts ws ws' : List Cond} {rm : Room} (n : Nat) (ht : ∀ w ∈ Ts, w.before args s = true) (hT : GoodIn Ts (wsV own index C y ws)) (hw : ws = Cond.codeWith y bytes maxL ret hh :: ws') (hrc : rm.cells = mc) (hrs : rm.slots = ms)
    (hd : y.cls = C ∧ y.cls ≠ "java/lang/invoke/MethodHandle" ∧ y.cls ≠ "java/lang/invoke/VarHandle" ∧ (parseMethodDescriptor y.desc).map (fun d => d.parameters.length) = some n) (hR : rm.frames + 1 ≤ R.frames ∧ 8 + (maxL + 11) + rm.locals ≤ R.locals) :
    vx_CVW R s args own C index y bytes maxL ret hh ws rm mc ms n := by
  obtain ⟨hC, hd⟩ := hd
  subst hC
  have ok : ∀ w ∈ wsV own index y.cls y ws, w.before args s = true := fun w h => ht w (hT w h).1
  have hG : GoodIn Ts ws := fun w h => hT w (by unfold wsV; exact List.mem_append_right _ h)
  have hc : Cond.codeWith y bytes maxL ret hh ∈ ws := by rw [hw]; exact List.mem_cons_self
  refine ⟨⟨hrc, hrs, hR.1, hR.2, pay_in ht hG, hc⟩, ht _ (hG _ hc).1, ok _ (by simp [wsV]), ⟨hd.1, hd.2.1⟩, fun sig h => ?_, ok _ (by simp [wsV]), ok _ (by simp [wsV]), ok _ (by simp [wsV])⟩
  have h2 := hd.2.2
  rw [h] at h2
  exact (Option.some.inj h2).symm
theorem vx_runVW {y : MethodName} {bytes cc : ByteArray} {maxL nL mc ms n index : Nat} {ret : Option FieldType} {hh : List (Nat × Nat × Nat × Nat)} {ws : List Cond} {rm : Room} {Pc : Array Value → State → Prop} {Qc : Array Value → State → Outcome → State → Prop} {free : Addr → Prop} {Ts : List Cond} {own C : String} {b : Addr} {As rest : List Value} {g : JFrame}
    (S : CallFix p m c cc nL s args Ts own) (hM : Met l y ws rm Pc Qc mc ms free) (cw : vx_CVW R s args own C index y bytes maxL ret hh ws rm mc ms n) (hp : PreV s H C b Pc As)
    (hg : g.method = m) (hn : As.length = n) (hsize : g.locals.size = nL) (hstack : g.stack = As.reverse ++ .ref b :: rest) (hW : 2 * g.monitorRoom + (rest.map fun v => v.category).sum ≤ 8) (hdg : decode cc g.pc = .ok (.invokevirtual index, 3)) (hf : cells + mc ≤ R.cells ∧ slots + ms ≤ R.slots) :
    va_Run p l e R s m args below meth c H locs cells slots mc ms g rest (Qc (Value.ref b :: As).toArray) free := by
  obtain ⟨⟨hrc, hrs, hfr, hlo, hws, hcw⟩, hcode, hini, hy, hlen, hl, hin, hse⟩ := cw
  have hK : Back l R p e below s args y 3 8 (PreOf R mc ms Pc) (PostOf Qc mc ms free) := va_backW (hh := hh) (bytes := bytes) (maxL := maxL) (ret := ret) hM hp.1 hrc hrs hfr hlo hws hcw (fun a' U hW => word_at hW (Or.inl (by first | rfl | simp [Cond.onTables, Cond.keeps, Cond.steady])) hini)
  obtain ⟨hx, hb, hml, ho, -⟩ := S
  obtain ⟨-, ⟨cellB, hcB, hoB, hclB⟩, hPc⟩ := hp
  intro T hT X
  obtain ⟨v, vm₁, ⟨U', l2, c2, s2⟩, hW₁, X', ⟨g', mk, t, L, e1, e2, hq, h1, hL, h2, h3⟩, st⟩ := vx_callVW X hx (C := C) (hh := hh) (bytes := bytes) (maxL := maxL) (ret := ret) ho hl hin hse hcode hy hK (by rw [hT]; exact hcB) hoB hclB hg (hsize.trans hml.symm) (argsL := As) (rest := rest) (fun sig h => hn.trans (hlen sig h)) hstack hW (by rw [hb]; exact hdg)
    (fun vm₁ hW₁ => ⟨hf.1, hf.2, hPc (T.setVm vm₁) hT hW₁⟩)
  dsimp only [Pt.U, Pt.locs, Pt.cells, Pt.slots] at X' e1 e2 h1 h2 h3 st
  subst h1; subst h2; subst h3
  exact ⟨v, (T.setVm vm₁).calling g' mk (Value.ref b :: As).toArray, t, U', L, hT, X', hL, e1, e2, hq, st⟩
section
variable {y : MethodName} {bytes cc : ByteArray} {maxL nL mc ms n index : Nat} {ret : Option FieldType} {ws : List Cond} {rm : Room} {Pc : Array Value → State → Prop} {Qc : Array Value → State → Outcome → State → Prop} {XC : String → State → State → Prop} {free : Addr → Prop} {Ts : List Cond} {own C : String} {b : Addr} {As rest : List Value} {g : JFrame}
theorem vx_runVX {hh : List (Nat × Nat × Nat × Nat)} (S : CallFix p m c cc nL s args Ts own) (hM : vx_Met l y ws rm Pc Qc XC mc ms free) (cw : vx_CVW R s args own C index y bytes maxL ret hh ws rm mc ms n) (hp : PreV s H C b Pc As)
    (hg : g.method = m) (hn : As.length = n) (hsize : g.locals.size = nL) (hstack : g.stack = As.reverse ++ .ref b :: rest) (hW : 2 * g.monitorRoom + (rest.map fun v => v.category).sum ≤ 8) (hdg : decode cc g.pc = .ok (.invokevirtual index, 3)) (hf : cells + mc ≤ R.cells ∧ slots + ms ≤ R.slots) :
    vx_Run p l e R s m args below meth c H locs cells slots mc ms g rest (Qc (Value.ref b :: As).toArray) XC free := by
  obtain ⟨⟨hrc, hrs, hfr, hlo, hws, hcw⟩, hcode, hini, hy, hlen, hl, hin, hse⟩ := cw
  have hK : vx_Back l R p e below s args y 3 8 (PreOf R mc ms Pc) (PostOf Qc mc ms free) (vx_Post XC mc ms free) := vx_backW (hh := hh) (bytes := bytes) (maxL := maxL) (ret := ret) hM hp.1 hrc hrs hfr hlo hws hcw (fun a' U hW => word_at hW (Or.inl (by first | rfl | simp [Cond.onTables, Cond.keeps, Cond.steady])) hini)
  obtain ⟨hx, hb, hml, ho, -⟩ := S
  obtain ⟨-, ⟨cellB, hcB, hoB, hclB⟩, hPc⟩ := hp
  intro T hT X
  rcases vx_callVX X hx (C := C) (hh := hh) (bytes := bytes) (maxL := maxL) (ret := ret) ho hl hin hse hcode hy hK (by rw [hT]; exact hcB) hoB hclB hg (hsize.trans hml.symm) (argsL := As) (rest := rest) (fun sig h => hn.trans (hlen sig h)) hstack hW (by rw [hb]; exact hdg)
    (fun vm₁ hW₁ => ⟨hf.1, hf.2, hPc (T.setVm vm₁) hT hW₁⟩) with ⟨v, vm₁, ⟨U', l2, c2, s2⟩, hW₁, X', ⟨g', mk, t, L, e1, e2, hq, h1, hL, h2, h3⟩, st⟩ | ⟨q, vm₁, ⟨U', l2, c2, s2⟩, hW₁, X', ⟨g', mk, t, L, E, ce, e1, e2, hq, hce, hcv, hcl, h1, hL, h2, h3⟩, st⟩
  · dsimp only [Pt.U, Pt.locs, Pt.cells, Pt.slots] at X' e1 e2 h1 h2 h3 st
    subst h1; subst h2; subst h3
    exact Or.inl ⟨v, (T.setVm vm₁).calling g' mk (Value.ref b :: As).toArray, t, U', L, hT, X', hL, e1, e2, hq, st⟩
  · dsimp only [Pt.U, Pt.locs, Pt.cells, Pt.slots] at X' e1 e2 h1 h2 h3 st hcl
    subst h1; subst h2; subst h3
    exact Or.inr ⟨q, (T.setVm vm₁).calling g' mk (Value.ref b :: As).toArray, t, U', L, E, ce, hT, X', hL, e1, e2, hq, hce, hcv, vx_cls hW₁ hcl, st⟩
theorem vx_runSX {hh : List (Nat × Nat × Nat × Nat)} (S : CallFix p m c cc nL s args Ts own) (hM : vx_Met l y ws rm Pc Qc XC mc ms free) (cw : vx_CSW R s args own index y bytes maxL ret hh ws rm mc ms n) (hp : PreS s H Pc As)
    (hg : g.method = m) (hn : As.length = n) (hsize : g.locals.size = nL) (hstack : g.stack = As.reverse ++ rest) (hW : 2 * g.monitorRoom + (rest.map fun v => v.category).sum ≤ 8) (hdg : decode cc g.pc = .ok (.invokestatic index, 3)) (hf : cells + mc ≤ R.cells ∧ slots + ms ≤ R.slots) :
    vx_Run p l e R s m args below meth c H locs cells slots mc ms g rest (Qc As.toArray) XC free := by
  obtain ⟨⟨hrc, hrs, hfr, hlo, hws, hcw⟩, hcode, hini, hy, hlen, hl, hstt⟩ := cw
  have hK : vx_Back l R p e below s args y 3 8 (PreOf R mc ms Pc) (PostOf Qc mc ms free) (vx_Post XC mc ms free) := vx_backW (hh := hh) (bytes := bytes) (maxL := maxL) (ret := ret) hM hp.1 hrc hrs hfr hlo hws hcw (fun a' U hW => word_at hW (Or.inl (by first | rfl | simp [Cond.onTables, Cond.keeps, Cond.steady])) hini)
  obtain ⟨hx, hb, hml, ho, -⟩ := S
  intro T hT X
  rcases vx_callSX X hx (hh := hh) (bytes := bytes) (maxL := maxL) (ret := ret) ho hl hstt hini hcode hy hK hg (hsize.trans hml.symm) (argsL := As) (rest := rest) (fun sig h => hn.trans (hlen sig h)) hstack hW (by rw [hb]; exact hdg)
    (fun vm₁ hW₁ => ⟨hf.1, hf.2, hp.2 (T.setVm vm₁) hT hW₁⟩) with ⟨v, vm₁, ⟨U', l2, c2, s2⟩, hW₁, X', ⟨g', mk, t, L, e1, e2, hq, h1, hL, h2, h3⟩, st⟩ | ⟨q, vm₁, ⟨U', l2, c2, s2⟩, hW₁, X', ⟨g', mk, t, L, E, ce, e1, e2, hq, hce, hcv, hcl, h1, hL, h2, h3⟩, st⟩
  · dsimp only [Pt.U, Pt.locs, Pt.cells, Pt.slots] at X' e1 e2 h1 h2 h3 st
    subst h1; subst h2; subst h3
    exact Or.inl ⟨v, (T.setVm vm₁).calling g' mk As.toArray, t, U', L, hT, X', hL, e1, e2, hq, st⟩
  · dsimp only [Pt.U, Pt.locs, Pt.cells, Pt.slots] at X' e1 e2 h1 h2 h3 st hcl
    subst h1; subst h2; subst h3
    exact Or.inr ⟨q, (T.setVm vm₁).calling g' mk As.toArray, t, U', L, E, ce, hT, X', hL, e1, e2, hq, hce, hcv, vx_cls hW₁ hcl, st⟩
end
end VXH
theorem vx_ofWH {l : Launch} {y : MethodName} {ws ws' : List Cond} {rm : Room} {Pc : Array Value → State → Prop} {Qc : Array Value → State → Outcome → State → Prop} {XC : String → State → State → Prop} {mc ms : Nat} {free : Addr → Prop} {cc : ByteArray} {maxL : Nat} {ret : Option FieldType} {hh : List (Nat × Nat × Nat × Nat)}
    (hy : plainName y.cls = true) (hw : ws = Cond.codeWith y cc maxL ret hh :: ws')
    (body : ∀ p e s m args below meth c s₁, BodyLoose p l y (headSpec ws rm) cc maxL ret e s m args below meth c s₁ → c.maxLocals = maxL → Pc args s →
      W p l e (headSpec ws rm).room s m args below meth c s.heap [] 0 0 (vx_MQ below Qc XC args s mc ms free) (entryFrame m args maxL)) : vx_Met l y ws rm Pc Qc XC mc ms free := by
  refine MetFree.of_bodyS (code := cc) (maxLocals := maxL) (ret := ret) hy ?_ ?_
  · intro args s m h hn
    obtain ⟨m9, meth, c, hn9, h1, h2, h3, h4, -, h5, h6, -⟩ := Cond.codeWith_spec (atoms_spec (ws := ws) h _ (by rw [hw]; exact List.mem_cons_self))
    cases hn.symm.trans hn9
    exact ⟨meth, c, h1, h2, h3, h4, h5, h6⟩
  · intro p e s m args below meth c s₁ B hml hP _
    have hh0 : s₁.heap = s.heap := by rw [B.state]; rfl
    obtain ⟨t, a1, o, b1, b2, b3⟩ := body p e s m args below meth c s₁ B hml hP s₁ hh0 (Stand.of_body B)
    exact ⟨t, o, a1, b1, b2, b3⟩
/-! ===== END ===== -/
end
section

/-! ===== BEGIN printed: names, fields, word lists, decode rows ===== -/
def RX0 : String := "FourTints"
def TX0 : u_T := fun k => match k with
  | 0 => ("FourTints", "land", "[J", true)
  | 1 => ("FourTints", "there", "I", false)
  | 2 => ("FourTints", "near", "[I", true)
  | 3 => ("FourTints", "worn", "[I", true)
  | 4 => ("FourTints", "trial", "[I", true)
  | 5 => ("FourTints", "fits", "[Z", true)
  | 6 => ("FourTints", "ways", "[J", true)
  | _ => ("FourTints", "joined", "[[I", true)
def tyX0 : Nat → FieldType := fun k => match k with
  | 0 => .array .long
  | 1 => .int
  | 2 => .array .int
  | 3 => .array .int
  | 4 => .array .int
  | 5 => .array .boolean
  | 6 => .array .long
  | _ => .array (.array .int)
abbrev wsX00 : List Cond := u_ws RX0 TX0 8
theorem nmX0 : ∀ a, a < 8 → ∀ b, b < 8 → a ≠ b → (TX0 a).2.1 ≠ (TX0 b).2.1 := by decide +kernel
theorem tyX0_ok : ∀ k, k < 8 → parseFieldDescriptor (TX0 k).2.2.1 = some (tyX0 k) := by decide +kernel
abbrev cX0_init : ByteArray := prog_1_method_1_code
def yX0_init : MethodName := ⟨RX0, "<init>", "()V"⟩
abbrev cX0_paint : ByteArray := prog_1_method_2_code
def yX0_paint : MethodName := ⟨RX0, "paint", "(III)I"⟩
abbrev cX0_paintBlock : ByteArray := prog_1_method_3_code
def yX0_paintBlock : MethodName := ⟨RX0, "paintBlock", "(IIIII)I"⟩
abbrev cX0_countryAt : ByteArray := prog_1_method_4_code
def yX0_countryAt : MethodName := ⟨RX0, "countryAt", "(II)I"⟩
abbrev cX0_countries : ByteArray := prog_1_method_5_code
def yX0_countries : MethodName := ⟨RX0, "countries", "()I"⟩
abbrev cX0_area : ByteArray := prog_1_method_6_code
def yX0_area : MethodName := ⟨RX0, "area", "(I)I"⟩
abbrev cX0_pieces : ByteArray := prog_1_method_7_code
def yX0_pieces : MethodName := ⟨RX0, "pieces", "(I)I"⟩
abbrev cX0_largestPiece : ByteArray := prog_1_method_8_code
def yX0_largestPiece : MethodName := ⟨RX0, "largestPiece", "(I)I"⟩
abbrev cX0_scattered : ByteArray := prog_1_method_9_code
def yX0_scattered : MethodName := ⟨RX0, "scattered", "()I"⟩
abbrev cX0_neighbours : ByteArray := prog_1_method_10_code
def yX0_neighbours : MethodName := ⟨RX0, "neighbours", "(I)I"⟩
abbrev cX0_border : ByteArray := prog_1_method_11_code
def yX0_border : MethodName := ⟨RX0, "border", "(II)I"⟩
abbrev cX0_enclosed : ByteArray := prog_1_method_12_code
def yX0_enclosed : MethodName := ⟨RX0, "enclosed", "(I)I"⟩
abbrev cX0_allNeighbours : ByteArray := prog_1_method_13_code
def yX0_allNeighbours : MethodName := ⟨RX0, "allNeighbours", "()I"⟩
abbrev cX0_tint : ByteArray := prog_1_method_14_code
def yX0_tint : MethodName := ⟨RX0, "tint", "(II)I"⟩
abbrev cX0_tintOf : ByteArray := prog_1_method_15_code
def yX0_tintOf : MethodName := ⟨RX0, "tintOf", "(I)I"⟩
abbrev cX0_conflicts : ByteArray := prog_1_method_16_code
def yX0_conflicts : MethodName := ⟨RX0, "conflicts", "()I"⟩
abbrev cX0_isTinted : ByteArray := prog_1_method_17_code
def yX0_isTinted : MethodName := ⟨RX0, "isTinted", "()Z"⟩
abbrev cX0_leastFree : ByteArray := prog_1_method_18_code
def yX0_leastFree : MethodName := ⟨RX0, "leastFree", "(I)I"⟩
abbrev cX0_chain : ByteArray := prog_1_method_19_code
def yX0_chain : MethodName := ⟨RX0, "chain", "(II)I"⟩
abbrev cX0_exchange : ByteArray := prog_1_method_20_code
def yX0_exchange : MethodName := ⟨RX0, "exchange", "(II)I"⟩
abbrev cX0_tintInOrder : ByteArray := prog_1_method_21_code
def yX0_tintInOrder : MethodName := ⟨RX0, "tintInOrder", "(Z)I"⟩
abbrev cX0_fewestTints : ByteArray := prog_1_method_22_code
def yX0_fewestTints : MethodName := ⟨RX0, "fewestTints", "()I"⟩
abbrev cX0_tintWithFewest : ByteArray := prog_1_method_23_code
def yX0_tintWithFewest : MethodName := ⟨RX0, "tintWithFewest", "()I"⟩
abbrev cX0_tintings : ByteArray := prog_1_method_24_code
def yX0_tintings : MethodName := ⟨RX0, "tintings", "(I)J"⟩
abbrev cX0_tintingsByPairs : ByteArray := prog_1_method_25_code
def yX0_tintingsByPairs : MethodName := ⟨RX0, "tintingsByPairs", "(I)J"⟩
abbrev cX0_checkCell : ByteArray := prog_1_method_26_code
def yX0_checkCell : MethodName := ⟨RX0, "checkCell", "(II)V"⟩
abbrev cX0_checkCountry : ByteArray := prog_1_method_27_code
def yX0_checkCountry : MethodName := ⟨RX0, "checkCountry", "(I)V"⟩
abbrev cX0_checkPaint : ByteArray := prog_1_method_28_code
def yX0_checkPaint : MethodName := ⟨RX0, "checkPaint", "(I)V"⟩
abbrev cX0_checkTint : ByteArray := prog_1_method_29_code
def yX0_checkTint : MethodName := ⟨RX0, "checkTint", "(I)V"⟩
abbrev cX0_checkNumberOfTints : ByteArray := prog_1_method_30_code
def yX0_checkNumberOfTints : MethodName := ⟨RX0, "checkNumberOfTints", "(I)V"⟩
abbrev cX0_checkTinted : ByteArray := prog_1_method_31_code
def yX0_checkTinted : MethodName := ⟨RX0, "checkTinted", "(I)V"⟩
abbrev cX0_block : ByteArray := prog_1_method_32_code
def yX0_block : MethodName := ⟨RX0, "block", "(IIII)J"⟩
abbrev cX0_above : ByteArray := prog_1_method_33_code
def yX0_above : MethodName := ⟨RX0, "above", "(J)J"⟩
abbrev cX0_below : ByteArray := prog_1_method_34_code
def yX0_below : MethodName := ⟨RX0, "below", "(J)J"⟩
abbrev cX0_leftOf : ByteArray := prog_1_method_35_code
def yX0_leftOf : MethodName := ⟨RX0, "leftOf", "(J)J"⟩
abbrev cX0_rightOf : ByteArray := prog_1_method_36_code
def yX0_rightOf : MethodName := ⟨RX0, "rightOf", "(J)J"⟩
abbrev cX0_spread : ByteArray := prog_1_method_37_code
def yX0_spread : MethodName := ⟨RX0, "spread", "(J)J"⟩
abbrev cX0_reach : ByteArray := prog_1_method_38_code
def yX0_reach : MethodName := ⟨RX0, "reach", "(JJ)J"⟩
abbrev cX0_pieceIn : ByteArray := prog_1_method_39_code
def yX0_pieceIn : MethodName := ⟨RX0, "pieceIn", "(J)J"⟩
abbrev cX0_countPieces : ByteArray := prog_1_method_40_code
def yX0_countPieces : MethodName := ⟨RX0, "countPieces", "(J)I"⟩
abbrev cX0_cellsOf : ByteArray := prog_1_method_41_code
def yX0_cellsOf : MethodName := ⟨RX0, "cellsOf", "(I)J"⟩
abbrev cX0_ownerOf : ByteArray := prog_1_method_42_code
def yX0_ownerOf : MethodName := ⟨RX0, "ownerOf", "(J)I"⟩
abbrev cX0_cover : ByteArray := prog_1_method_43_code
def yX0_cover : MethodName := ⟨RX0, "cover", "(JI)V"⟩
abbrev cX0_has : ByteArray := prog_1_method_44_code
def yX0_has : MethodName := ⟨RX0, "has", "(II)Z"⟩
abbrev cX0_findNeighbours : ByteArray := prog_1_method_45_code
def yX0_findNeighbours : MethodName := ⟨RX0, "findNeighbours", "()V"⟩
abbrev cX0_thoseIn : ByteArray := prog_1_method_46_code
def yX0_thoseIn : MethodName := ⟨RX0, "thoseIn", "(J)I"⟩
abbrev cX0_withNeighbours : ByteArray := prog_1_method_47_code
def yX0_withNeighbours : MethodName := ⟨RX0, "withNeighbours", "(I)I"⟩
abbrev cX0_markSetsOfNeighbours : ByteArray := prog_1_method_48_code
def yX0_markSetsOfNeighbours : MethodName := ⟨RX0, "markSetsOfNeighbours", "()V"⟩
abbrev cX0_markSetsWithoutNeighbours : ByteArray := prog_1_method_49_code
def yX0_markSetsWithoutNeighbours : MethodName := ⟨RX0, "markSetsWithoutNeighbours", "()V"⟩
abbrev cX0_wearing : ByteArray := prog_1_method_50_code
def yX0_wearing : MethodName := ⟨RX0, "wearing", "(I)I"⟩
abbrev cX0_leastFreeBeside : ByteArray := prog_1_method_51_code
def yX0_leastFreeBeside : MethodName := ⟨RX0, "leastFreeBeside", "(I)I"⟩
abbrev cX0_giveLeastFree : ByteArray := prog_1_method_52_code
def yX0_giveLeastFree : MethodName := ⟨RX0, "giveLeastFree", "(I)I"⟩
abbrev cX0_chainOf : ByteArray := prog_1_method_53_code
def yX0_chainOf : MethodName := ⟨RX0, "chainOf", "(II)I"⟩
abbrev cX0_tryFewest : ByteArray := prog_1_method_54_code
def yX0_tryFewest : MethodName := ⟨RX0, "tryFewest", "()I"⟩
abbrev cX0_tryFrom : ByteArray := prog_1_method_55_code
def yX0_tryFrom : MethodName := ⟨RX0, "tryFrom", "(I[II[III)Z"⟩
abbrev cX0_isFreeIn : ByteArray := prog_1_method_56_code
def yX0_isFreeIn : MethodName := ⟨RX0, "isFreeIn", "([IIII)Z"⟩
abbrev cX0_shareOutOneSet : ByteArray := prog_1_method_57_code
def yX0_shareOutOneSet : MethodName := ⟨RX0, "shareOutOneSet", "()V"⟩
abbrev cX0_shareOutFrom : ByteArray := prog_1_method_58_code
def yX0_shareOutFrom : MethodName := ⟨RX0, "shareOutFrom", "(IJ)V"⟩
abbrev cX0_countByPairs : ByteArray := prog_1_method_59_code
def yX0_countByPairs : MethodName := ⟨RX0, "countByPairs", "([[IIII)J"⟩
abbrev cX0_oneToTintLast : ByteArray := prog_1_method_60_code
def yX0_oneToTintLast : MethodName := ⟨RX0, "oneToTintLast", "([II)I"⟩
abbrev cX0_areAllNeighbours : ByteArray := prog_1_method_61_code
def yX0_areAllNeighbours : MethodName := ⟨RX0, "areAllNeighbours", "([II)Z"⟩
abbrev cX0_firstWithStranger : ByteArray := prog_1_method_62_code
def yX0_firstWithStranger : MethodName := ⟨RX0, "firstWithStranger", "([II)I"⟩
abbrev cX0_firstOf : ByteArray := prog_1_method_63_code
def yX0_firstOf : MethodName := ⟨RX0, "firstOf", "(I)I"⟩
abbrev cX0_makeOne : ByteArray := prog_1_method_64_code
def yX0_makeOne : MethodName := ⟨RX0, "makeOne", "([I[III)V"⟩
def RX1 : String := "FourTintsModel"
def TX1 : u_T := fun k => match k with
  | 0 => ("FourTintsModel", "cell", "[I", true)
  | 1 => ("FourTintsModel", "tint", "[I", true)
  | 2 => ("FourTintsModel", "cells", "[J", true)
  | 3 => ("FourTintsModel", "near", "[I", true)
  | 4 => ("FourTintsModel", "there", "I", false)
  | 5 => ("FourTintsModel", "ways", "[J", true)
  | 6 => ("FourTintsModel", "more", "[J", true)
  | _ => ("FourTintsModel", "thrown", "I", false)
def tyX1 : Nat → FieldType := fun k => match k with
  | 0 => .array .int
  | 1 => .array .int
  | 2 => .array .long
  | 3 => .array .int
  | 4 => .int
  | 5 => .array .long
  | 6 => .array .long
  | _ => .int
abbrev wsX10 : List Cond := u_ws RX1 TX1 8
theorem nmX1 : ∀ a, a < 8 → ∀ b, b < 8 → a ≠ b → (TX1 a).2.1 ≠ (TX1 b).2.1 := by decide +kernel
theorem tyX1_ok : ∀ k, k < 8 → parseFieldDescriptor (TX1 k).2.2.1 = some (tyX1 k) := by decide +kernel
abbrev cX1_init : ByteArray := prog_3_method_1_code
def yX1_init : MethodName := ⟨RX1, "<init>", "()V"⟩
abbrev cX1_thrown : ByteArray := prog_3_method_2_code
def yX1_thrown : MethodName := ⟨RX1, "thrown", "()I"⟩
abbrev cX1_in : ByteArray := prog_3_method_3_code
def yX1_in : MethodName := ⟨RX1, "in", "(III)Z"⟩
abbrev cX1_goes : ByteArray := prog_3_method_4_code
def yX1_goes : MethodName := ⟨RX1, "goes", "(ZZZ)Z"⟩
abbrev cX1_told : ByteArray := prog_3_method_5_code
def yX1_told : MethodName := ⟨RX1, "told", "(I)I"⟩
abbrev cX1_isCell : ByteArray := prog_3_method_6_code
def yX1_isCell : MethodName := ⟨RX1, "isCell", "(II)Z"⟩
abbrev cX1_isCountry : ByteArray := prog_3_method_7_code
def yX1_isCountry : MethodName := ⟨RX1, "isCountry", "(I)Z"⟩
abbrev cX1_bits : ByteArray := prog_3_method_8_code
def yX1_bits : MethodName := ⟨RX1, "bits", "(J)I"⟩
abbrev cX1_spread : ByteArray := prog_3_method_9_code
def yX1_spread : MethodName := ⟨RX1, "spread", "(J)J"⟩
abbrev cX1_reach : ByteArray := prog_3_method_10_code
def yX1_reach : MethodName := ⟨RX1, "reach", "(JJ)J"⟩
abbrev cX1_looks : ByteArray := prog_3_method_11_code
def yX1_looks : MethodName := ⟨RX1, "looks", "()V"⟩
abbrev cX1_isThere : ByteArray := prog_3_method_12_code
def yX1_isThere : MethodName := ⟨RX1, "isThere", "(I)Z"⟩
abbrev cX1_paints : ByteArray := prog_3_method_13_code
def yX1_paints : MethodName := ⟨RX1, "paints", "(II)I"⟩
abbrev cX1_paint : ByteArray := prog_3_method_14_code
def yX1_paint : MethodName := ⟨RX1, "paint", "(III)I"⟩
abbrev cX1_paintBlock : ByteArray := prog_3_method_15_code
def yX1_paintBlock : MethodName := ⟨RX1, "paintBlock", "(IIIII)I"⟩
abbrev cX1_countryAt : ByteArray := prog_3_method_16_code
def yX1_countryAt : MethodName := ⟨RX1, "countryAt", "(II)I"⟩
abbrev cX1_countries : ByteArray := prog_3_method_17_code
def yX1_countries : MethodName := ⟨RX1, "countries", "()I"⟩
abbrev cX1_area : ByteArray := prog_3_method_18_code
def yX1_area : MethodName := ⟨RX1, "area", "(I)I"⟩
abbrev cX1_piece : ByteArray := prog_3_method_19_code
def yX1_piece : MethodName := ⟨RX1, "piece", "(J)J"⟩
abbrev cX1_piecesOf : ByteArray := prog_3_method_20_code
def yX1_piecesOf : MethodName := ⟨RX1, "piecesOf", "(I)I"⟩
abbrev cX1_pieces : ByteArray := prog_3_method_21_code
def yX1_pieces : MethodName := ⟨RX1, "pieces", "(I)I"⟩
abbrev cX1_largestPiece : ByteArray := prog_3_method_22_code
def yX1_largestPiece : MethodName := ⟨RX1, "largestPiece", "(I)I"⟩
abbrev cX1_scattered : ByteArray := prog_3_method_23_code
def yX1_scattered : MethodName := ⟨RX1, "scattered", "()I"⟩
abbrev cX1_neighbours : ByteArray := prog_3_method_24_code
def yX1_neighbours : MethodName := ⟨RX1, "neighbours", "(I)I"⟩
abbrev cX1_touches : ByteArray := prog_3_method_25_code
def yX1_touches : MethodName := ⟨RX1, "touches", "(JJ)I"⟩
abbrev cX1_border : ByteArray := prog_3_method_26_code
def yX1_border : MethodName := ⟨RX1, "border", "(II)I"⟩
abbrev cX1_enclosed : ByteArray := prog_3_method_27_code
def yX1_enclosed : MethodName := ⟨RX1, "enclosed", "(I)I"⟩
abbrev cX1_areNear : ByteArray := prog_3_method_28_code
def yX1_areNear : MethodName := ⟨RX1, "areNear", "(IZ)Z"⟩
abbrev cX1_allNeighbours : ByteArray := prog_3_method_29_code
def yX1_allNeighbours : MethodName := ⟨RX1, "allNeighbours", "()I"⟩
abbrev cX1_tint : ByteArray := prog_3_method_30_code
def yX1_tint : MethodName := ⟨RX1, "tint", "(II)I"⟩
abbrev cX1_tintOf : ByteArray := prog_3_method_31_code
def yX1_tintOf : MethodName := ⟨RX1, "tintOf", "(I)I"⟩
abbrev cX1_inConflict : ByteArray := prog_3_method_32_code
def yX1_inConflict : MethodName := ⟨RX1, "inConflict", "()I"⟩
abbrev cX1_conflicts : ByteArray := prog_3_method_33_code
def yX1_conflicts : MethodName := ⟨RX1, "conflicts", "()I"⟩
abbrev cX1_isTinted : ByteArray := prog_3_method_34_code
def yX1_isTinted : MethodName := ⟨RX1, "isTinted", "()Z"⟩
abbrev cX1_least : ByteArray := prog_3_method_35_code
def yX1_least : MethodName := ⟨RX1, "least", "(I)I"⟩
abbrev cX1_leastFree : ByteArray := prog_3_method_36_code
def yX1_leastFree : MethodName := ⟨RX1, "leastFree", "(I)I"⟩
abbrev cX1_isChain : ByteArray := prog_3_method_37_code
def yX1_isChain : MethodName := ⟨RX1, "isChain", "(II)Z"⟩
abbrev cX1_links : ByteArray := prog_3_method_38_code
def yX1_links : MethodName := ⟨RX1, "links", "(II)I"⟩
abbrev cX1_chain : ByteArray := prog_3_method_39_code
def yX1_chain : MethodName := ⟨RX1, "chain", "(II)I"⟩
abbrev cX1_exchange : ByteArray := prog_3_method_40_code
def yX1_exchange : MethodName := ⟨RX1, "exchange", "(II)I"⟩
abbrev cX1_tintInOrder : ByteArray := prog_3_method_41_code
def yX1_tintInOrder : MethodName := ⟨RX1, "tintInOrder", "(Z)I"⟩
abbrev cX1_begins : ByteArray := prog_3_method_42_code
def yX1_begins : MethodName := ⟨RX1, "begins", "()V"⟩
abbrev cX1_adds : ByteArray := prog_3_method_43_code
def yX1_adds : MethodName := ⟨RX1, "adds", "()V"⟩
abbrev cX1_fewest : ByteArray := prog_3_method_44_code
def yX1_fewest : MethodName := ⟨RX1, "fewest", "()I"⟩
abbrev cX1_fewestTints : ByteArray := prog_3_method_45_code
def yX1_fewestTints : MethodName := ⟨RX1, "fewestTints", "()I"⟩
abbrev cX1_isApart : ByteArray := prog_3_method_46_code
def yX1_isApart : MethodName := ⟨RX1, "isApart", "(I)Z"⟩
abbrev cX1_next : ByteArray := prog_3_method_47_code
def yX1_next : MethodName := ⟨RX1, "next", "(II)I"⟩
abbrev cX1_tintWithFewest : ByteArray := prog_3_method_48_code
def yX1_tintWithFewest : MethodName := ⟨RX1, "tintWithFewest", "()I"⟩
abbrev cX1_count : ByteArray := prog_3_method_49_code
def yX1_count : MethodName := ⟨RX1, "count", "(I)J"⟩
abbrev cX1_tintings : ByteArray := prog_3_method_50_code
def yX1_tintings : MethodName := ⟨RX1, "tintings", "(I)J"⟩
abbrev cX1_tintingsByPairs : ByteArray := prog_3_method_51_code
def yX1_tintingsByPairs : MethodName := ⟨RX1, "tintingsByPairs", "(I)J"⟩
def RJx145de : String := "java/io/Serializable"
def TJx145de : u_T := fun k => match k with
  | _ => ("", "", "", false)
def tyJx145de : Nat → FieldType := fun k => match k with
  | _ => .int
abbrev wsJx145de0 : List Cond := u_ws RJx145de TJx145de 0
theorem nmJx145de : ∀ a, a < 0 → ∀ b, b < 0 → a ≠ b → (TJx145de a).2.1 ≠ (TJx145de b).2.1 := by decide +kernel
theorem tyJx145de_ok : ∀ k, k < 0 → parseFieldDescriptor (TJx145de k).2.2.1 = some (tyJx145de k) := by decide +kernel
def RJ6 : String := "java/lang/Integer"
def TJ6 : u_T := fun k => match k with
  | _ => ("", "", "", false)
def tyJ6 : Nat → FieldType := fun k => match k with
  | _ => .int
abbrev wsJ60 : List Cond := u_ws RJ6 TJ6 0
theorem nmJ6 : ∀ a, a < 0 → ∀ b, b < 0 → a ≠ b → (TJ6 a).2.1 ≠ (TJ6 b).2.1 := by decide +kernel
theorem tyJ6_ok : ∀ k, k < 0 → parseFieldDescriptor (TJ6 k).2.2.1 = some (tyJ6 k) := by decide +kernel
abbrev cJ6_bitCount_0f7a4 : ByteArray := prog_8_method_49_code
def yJ6_bitCount_0f7a4 : MethodName := ⟨RJ6, "bitCount", "(I)I"⟩
def RJ13 : String := "java/lang/Long"
def TJ13 : u_T := fun k => match k with
  | _ => ("", "", "", false)
def tyJ13 : Nat → FieldType := fun k => match k with
  | _ => .int
abbrev wsJ130 : List Cond := u_ws RJ13 TJ13 0
theorem nmJ13 : ∀ a, a < 0 → ∀ b, b < 0 → a ≠ b → (TJ13 a).2.1 ≠ (TJ13 b).2.1 := by decide +kernel
theorem tyJ13_ok : ∀ k, k < 0 → parseFieldDescriptor (TJ13 k).2.2.1 = some (tyJ13 k) := by decide +kernel
abbrev cJ13_bitCount_95d88 : ByteArray := prog_9_method_50_code
def yJ13_bitCount_95d88 : MethodName := ⟨RJ13, "bitCount", "(J)I"⟩
def RJ9 : String := "java/lang/Math"
def TJ9 : u_T := fun k => match k with
  | _ => ("", "", "", false)
def tyJ9 : Nat → FieldType := fun k => match k with
  | _ => .int
abbrev wsJ90 : List Cond := u_ws RJ9 TJ9 0
theorem nmJ9 : ∀ a, a < 0 → ∀ b, b < 0 → a ≠ b → (TJ9 a).2.1 ≠ (TJ9 b).2.1 := by decide +kernel
theorem tyJ9_ok : ∀ k, k < 0 → parseFieldDescriptor (TJ9 k).2.2.1 = some (tyJ9 k) := by decide +kernel
abbrev cJ9_max_7cf53 : ByteArray := prog_10_method_65_code
def yJ9_max_7cf53 : MethodName := ⟨RJ9, "max", "(II)I"⟩
def RJ0 : String := "java/lang/String"
def TJ0 : u_T := fun k => match k with
  | _ => ("", "", "", false)
def tyJ0 : Nat → FieldType := fun k => match k with
  | _ => .int
abbrev wsJ00 : List Cond := u_ws RJ0 TJ0 0
theorem nmJ0 : ∀ a, a < 0 → ∀ b, b < 0 → a ≠ b → (TJ0 a).2.1 ≠ (TJ0 b).2.1 := by decide +kernel
theorem tyJ0_ok : ∀ k, k < 0 → parseFieldDescriptor (TJ0 k).2.2.1 = some (tyJ0 k) := by decide +kernel
def RJ10 : String := "java/lang/System"
def TJ10 : u_T := fun k => match k with
  | _ => ("", "", "", false)
def tyJ10 : Nat → FieldType := fun k => match k with
  | _ => .int
abbrev wsJ100 : List Cond := u_ws RJ10 TJ10 0
theorem nmJ10 : ∀ a, a < 0 → ∀ b, b < 0 → a ≠ b → (TJ10 a).2.1 ≠ (TJ10 b).2.1 := by decide +kernel
theorem tyJ10_ok : ∀ k, k < 0 → parseFieldDescriptor (TJ10 k).2.2.1 = some (tyJ10 k) := by decide +kernel
def RJ7 : String := "java/util/Arrays"
def TJ7 : u_T := fun k => match k with
  | _ => ("", "", "", false)
def tyJ7 : Nat → FieldType := fun k => match k with
  | _ => .int
abbrev wsJ70 : List Cond := u_ws RJ7 TJ7 0
theorem nmJ7 : ∀ a, a < 0 → ∀ b, b < 0 → a ≠ b → (TJ7 a).2.1 ≠ (TJ7 b).2.1 := by decide +kernel
theorem tyJ7_ok : ∀ k, k < 0 → parseFieldDescriptor (TJ7 k).2.2.1 = some (tyJ7 k) := by decide +kernel
abbrev cJ7_fill_d0a16 : ByteArray := prog_15_method_101_code
def yJ7_fill_d0a16 : MethodName := ⟨RJ7, "fill", "([JJ)V"⟩
def RL : String := "FourTintsLaw"
abbrev cL_paint : ByteArray := method_3_code
def yL_paint : MethodName := ⟨RL, "paint", "(LFourTints;III[J)I"⟩
abbrev cL_paintBlock : ByteArray := method_4_code
def yL_paintBlock : MethodName := ⟨RL, "paintBlock", "(LFourTints;IIIII[J)I"⟩
abbrev cL_countryAt : ByteArray := method_5_code
def yL_countryAt : MethodName := ⟨RL, "countryAt", "(LFourTints;II[J)I"⟩
abbrev cL_area : ByteArray := method_6_code
def yL_area : MethodName := ⟨RL, "area", "(LFourTints;I[J)I"⟩
abbrev cL_pieces : ByteArray := method_7_code
def yL_pieces : MethodName := ⟨RL, "pieces", "(LFourTints;I[J)I"⟩
abbrev cL_largestPiece : ByteArray := method_8_code
def yL_largestPiece : MethodName := ⟨RL, "largestPiece", "(LFourTints;I[J)I"⟩
abbrev cL_neighbours : ByteArray := method_9_code
def yL_neighbours : MethodName := ⟨RL, "neighbours", "(LFourTints;I[J)I"⟩
abbrev cL_border : ByteArray := method_10_code
def yL_border : MethodName := ⟨RL, "border", "(LFourTints;II[J)I"⟩
abbrev cL_enclosed : ByteArray := method_11_code
def yL_enclosed : MethodName := ⟨RL, "enclosed", "(LFourTints;I[J)I"⟩
abbrev cL_tint : ByteArray := method_12_code
def yL_tint : MethodName := ⟨RL, "tint", "(LFourTints;II[J)I"⟩
abbrev cL_tintOf : ByteArray := method_13_code
def yL_tintOf : MethodName := ⟨RL, "tintOf", "(LFourTints;I[J)I"⟩
abbrev cL_leastFree : ByteArray := method_14_code
def yL_leastFree : MethodName := ⟨RL, "leastFree", "(LFourTints;I[J)I"⟩
abbrev cL_chain : ByteArray := method_15_code
def yL_chain : MethodName := ⟨RL, "chain", "(LFourTints;II[J)I"⟩
abbrev cL_exchange : ByteArray := method_16_code
def yL_exchange : MethodName := ⟨RL, "exchange", "(LFourTints;II[J)I"⟩
abbrev cL_tintings : ByteArray := method_17_code
def yL_tintings : MethodName := ⟨RL, "tintings", "(LFourTints;I[J)I"⟩
abbrev cL_tintingsByPairs : ByteArray := method_18_code
def yL_tintingsByPairs : MethodName := ⟨RL, "tintingsByPairs", "(LFourTints;I[J)I"⟩
abbrev cL_law : ByteArray := code
def yL_law : MethodName := ⟨RL, "law", "([I)Z"⟩
def wsX0_init : List Cond := .code yX0_init cX0_init 1 none :: ([.methodLink RX0 3 objectInit, .instanceMethod objectInit, .code objectInit ⟨#[0xb1]⟩ 1 none, .arrayClass .long, .fieldLink RX0 9 "FourTints" "land" "[J", .fieldLink RX0 13 "FourTints" "there" "I", .arrayClass .int, .fieldLink RX0 17 "FourTints" "near" "[I", .fieldLink RX0 21 "FourTints" "worn" "[I", .fieldLink RX0 24 "FourTints" "trial" "[I", .arrayClass .boolean, .fieldLink RX0 27 "FourTints" "fits" "[Z", .fieldLink RX0 31 "FourTints" "ways" "[J", .classLink RX0 34 "[[I", .fieldLink RX0 36 "FourTints" "joined" "[[I"] ++ wsX00)
def wsX0_checkCell : List Cond := .code yX0_checkCell cX0_checkCell 2 none :: ([.classLink RX0 178 "java/lang/IndexOutOfBoundsException", .initialized "java/lang/IndexOutOfBoundsException"] ++ (vx_atS RX0 182 "java/lang/IndexOutOfBoundsException" ["java/lang/RuntimeException", "java/lang/Exception"]).filter goodWord)
def wsX0_checkPaint : List Cond := .code yX0_checkPaint cX0_checkPaint 1 none :: ([.classLink RX0 59 "java/lang/IllegalArgumentException", .initialized "java/lang/IllegalArgumentException"] ++ (vx_atS RX0 63 "java/lang/IllegalArgumentException" ["java/lang/RuntimeException", "java/lang/Exception"]).filter goodWord)
def wsX0_block : List Cond := .code yX0_block cX0_block 8 (some .long) :: ([])
def wsX0_ownerOf : List Cond := .code yX0_ownerOf cX0_ownerOf 4 (some .int) :: ([.fieldLink RX0 9 "FourTints" "land" "[J"] ++ wsX00)
def wsX0_above : List Cond := .code yX0_above cX0_above 2 (some .long) :: ([])
def wsX0_below : List Cond := .code yX0_below cX0_below 2 (some .long) :: ([.constantLong RX0 110 (68719476735)])
def wsX0_leftOf : List Cond := .code yX0_leftOf cX0_leftOf 2 (some .long) :: ([.constantLong RX0 196 (-1090785346)])
def wsX0_rightOf : List Cond := .code yX0_rightOf cX0_rightOf 2 (some .long) :: ([.constantLong RX0 198 (-34905131041)])
def wsX0_spread : List Cond := .code yX0_spread cX0_spread 2 (some .long) :: ([.methodLink RX0 98 yX0_above, .static yX0_above, .initialized RX0, .code yX0_above cX0_above 2 (some .long), .methodLink RX0 101 yX0_below, .static yX0_below, .code yX0_below cX0_below 2 (some .long), .constantLong RX0 110 (68719476735), .methodLink RX0 104 yX0_leftOf, .static yX0_leftOf, .code yX0_leftOf cX0_leftOf 2 (some .long), .constantLong RX0 196 (-1090785346), .methodLink RX0 107 yX0_rightOf, .static yX0_rightOf, .code yX0_rightOf cX0_rightOf 2 (some .long), .constantLong RX0 198 (-34905131041)])
def wsX0_thoseIn : List Cond := .code yX0_thoseIn cX0_thoseIn 5 (some .int) :: ([.fieldLink RX0 9 "FourTints" "land" "[J"] ++ wsX00)
def wsX0_findNeighbours_r1 : List Cond := [Cond.fieldLink RX0 13 "FourTints" "there" "I", Cond.fieldLink RX0 9 "FourTints" "land" "[J", Cond.fieldLink RX0 17 "FourTints" "near" "[I", Cond.methodLink RX0 200 yX0_spread, Cond.static yX0_spread, Cond.initialized RX0, Cond.code yX0_spread cX0_spread 2 (some .long), Cond.methodLink RX0 98 yX0_above, Cond.static yX0_above, Cond.code yX0_above cX0_above 2 (some .long), Cond.methodLink RX0 101 yX0_below, Cond.static yX0_below, Cond.code yX0_below cX0_below 2 (some .long), Cond.constantLong RX0 110 (68719476735), Cond.methodLink RX0 104 yX0_leftOf, Cond.static yX0_leftOf, Cond.code yX0_leftOf cX0_leftOf 2 (some .long), Cond.constantLong RX0 196 (-1090785346), Cond.methodLink RX0 107 yX0_rightOf, Cond.static yX0_rightOf, Cond.code yX0_rightOf cX0_rightOf 2 (some .long), Cond.constantLong RX0 198 (-34905131041), Cond.methodLink RX0 206 yX0_thoseIn, Cond.instanceMethod yX0_thoseIn]
def wsX0_findNeighbours_r2 : List Cond := [Cond.selects RX0 yX0_thoseIn yX0_thoseIn, Cond.code yX0_thoseIn cX0_thoseIn 5 (some .int)]
def wsX0_findNeighbours : List Cond := .code yX0_findNeighbours cX0_findNeighbours 2 none :: ((wsX0_findNeighbours_r1 ++ wsX0_findNeighbours_r2) ++ wsX00)
def wsX0_cover_r1 : List Cond := [Cond.fieldLink RX0 9 "FourTints" "land" "[J", Cond.constantLong RX0 70 (-1), Cond.methodLink RX0 203 yX0_findNeighbours, Cond.instanceMethod yX0_findNeighbours, Cond.selects RX0 yX0_findNeighbours yX0_findNeighbours, Cond.initialized RX0, Cond.code yX0_findNeighbours cX0_findNeighbours 2 none, Cond.fieldLink RX0 13 "FourTints" "there" "I", Cond.fieldLink RX0 17 "FourTints" "near" "[I", Cond.methodLink RX0 200 yX0_spread, Cond.static yX0_spread, Cond.code yX0_spread cX0_spread 2 (some .long), Cond.methodLink RX0 98 yX0_above, Cond.static yX0_above, Cond.code yX0_above cX0_above 2 (some .long), Cond.methodLink RX0 101 yX0_below, Cond.static yX0_below, Cond.code yX0_below cX0_below 2 (some .long), Cond.constantLong RX0 110 (68719476735), Cond.methodLink RX0 104 yX0_leftOf, Cond.static yX0_leftOf, Cond.code yX0_leftOf cX0_leftOf 2 (some .long), Cond.constantLong RX0 196 (-1090785346), Cond.methodLink RX0 107 yX0_rightOf]
def wsX0_cover_r2 : List Cond := [Cond.static yX0_rightOf, Cond.code yX0_rightOf cX0_rightOf 2 (some .long), Cond.constantLong RX0 198 (-34905131041), Cond.methodLink RX0 206 yX0_thoseIn, Cond.instanceMethod yX0_thoseIn, Cond.selects RX0 yX0_thoseIn yX0_thoseIn, Cond.code yX0_thoseIn cX0_thoseIn 5 (some .int)]
def wsX0_cover : List Cond := .code yX0_cover cX0_cover 5 none :: ((wsX0_cover_r1 ++ wsX0_cover_r2) ++ wsX00)
def wsX0_paint_r1 : List Cond := [Cond.methodLink RX0 39 yX0_checkCell, Cond.static yX0_checkCell, Cond.initialized RX0, Cond.code yX0_checkCell cX0_checkCell 2 none, Cond.classLink RX0 178 "java/lang/IndexOutOfBoundsException", Cond.initialized "java/lang/IndexOutOfBoundsException", Cond.methodLink RX0 43 yX0_checkPaint, Cond.static yX0_checkPaint, Cond.code yX0_checkPaint cX0_checkPaint 1 none, Cond.classLink RX0 59 "java/lang/IllegalArgumentException", Cond.initialized "java/lang/IllegalArgumentException", Cond.methodLink RX0 47 yX0_block, Cond.static yX0_block, Cond.code yX0_block cX0_block 8 (some .long), Cond.methodLink RX0 51 yX0_ownerOf, Cond.instanceMethod yX0_ownerOf, Cond.selects RX0 yX0_ownerOf yX0_ownerOf, Cond.code yX0_ownerOf cX0_ownerOf 4 (some .int), Cond.fieldLink RX0 9 "FourTints" "land" "[J", Cond.methodLink RX0 55 yX0_cover, Cond.instanceMethod yX0_cover, Cond.selects RX0 yX0_cover yX0_cover, Cond.code yX0_cover cX0_cover 5 none, Cond.constantLong RX0 70 (-1)]
def wsX0_paint_r2 : List Cond := [Cond.methodLink RX0 203 yX0_findNeighbours, Cond.instanceMethod yX0_findNeighbours, Cond.selects RX0 yX0_findNeighbours yX0_findNeighbours, Cond.code yX0_findNeighbours cX0_findNeighbours 2 none, Cond.fieldLink RX0 13 "FourTints" "there" "I", Cond.fieldLink RX0 17 "FourTints" "near" "[I", Cond.methodLink RX0 200 yX0_spread, Cond.static yX0_spread, Cond.code yX0_spread cX0_spread 2 (some .long), Cond.methodLink RX0 98 yX0_above, Cond.static yX0_above, Cond.code yX0_above cX0_above 2 (some .long), Cond.methodLink RX0 101 yX0_below, Cond.static yX0_below, Cond.code yX0_below cX0_below 2 (some .long), Cond.constantLong RX0 110 (68719476735), Cond.methodLink RX0 104 yX0_leftOf, Cond.static yX0_leftOf, Cond.code yX0_leftOf cX0_leftOf 2 (some .long), Cond.constantLong RX0 196 (-1090785346), Cond.methodLink RX0 107 yX0_rightOf, Cond.static yX0_rightOf, Cond.code yX0_rightOf cX0_rightOf 2 (some .long), Cond.constantLong RX0 198 (-34905131041)]
def wsX0_paint_r3 : List Cond := [Cond.methodLink RX0 206 yX0_thoseIn, Cond.instanceMethod yX0_thoseIn, Cond.selects RX0 yX0_thoseIn yX0_thoseIn, Cond.code yX0_thoseIn cX0_thoseIn 5 (some .int)]
def wsX0_paint : List Cond := .code yX0_paint cX0_paint 7 (some .int) :: ((wsX0_paint_r1 ++ (wsX0_paint_r2 ++ wsX0_paint_r3)) ++ wsX00 ++ (vx_atS RX0 182 "java/lang/IndexOutOfBoundsException" ["java/lang/RuntimeException", "java/lang/Exception"]).filter goodWord ++ (vx_atS RX0 63 "java/lang/IllegalArgumentException" ["java/lang/RuntimeException", "java/lang/Exception"]).filter goodWord)
def wsX0_cellsOf : List Cond := .code yX0_cellsOf cX0_cellsOf 5 (some .long) :: ([.fieldLink RX0 9 "FourTints" "land" "[J", .constantLong RX0 110 (68719476735), .constantLong RX0 70 (-1)] ++ wsX00)
def wsJ13_bitCount_95d88 : List Cond := .code yJ13_bitCount_95d88 cJ13_bitCount_95d88 2 (some .int) :: ([.constantLong RJ13 314 (6148914691236517205), .constantLong RJ13 316 (3689348814741910323), .constantLong RJ13 318 (1085102592571150095)])
def wsX0_paintBlock_r1 : List Cond := [Cond.classLink RX0 59 "java/lang/IllegalArgumentException", Cond.initialized "java/lang/IllegalArgumentException", Cond.constantLong RX0 70 (-1), Cond.methodLink RX0 39 yX0_checkCell, Cond.static yX0_checkCell, Cond.initialized RX0, Cond.code yX0_checkCell cX0_checkCell 2 none, Cond.classLink RX0 178 "java/lang/IndexOutOfBoundsException", Cond.initialized "java/lang/IndexOutOfBoundsException", Cond.methodLink RX0 43 yX0_checkPaint, Cond.static yX0_checkPaint, Cond.code yX0_checkPaint cX0_checkPaint 1 none, Cond.methodLink RX0 47 yX0_block, Cond.static yX0_block, Cond.code yX0_block cX0_block 8 (some .long), Cond.methodLink RX0 66 yX0_cellsOf, Cond.instanceMethod yX0_cellsOf, Cond.selects RX0 yX0_cellsOf yX0_cellsOf, Cond.code yX0_cellsOf cX0_cellsOf 5 (some .long), Cond.fieldLink RX0 9 "FourTints" "land" "[J", Cond.constantLong RX0 110 (68719476735), Cond.methodLink RX0 72 yJ13_bitCount_95d88, Cond.static yJ13_bitCount_95d88, Cond.initialized RJ13]
def wsX0_paintBlock_r2 : List Cond := [Cond.code yJ13_bitCount_95d88 cJ13_bitCount_95d88 2 (some .int), Cond.constantLong RJ13 314 (6148914691236517205), Cond.constantLong RJ13 316 (3689348814741910323), Cond.constantLong RJ13 318 (1085102592571150095), Cond.methodLink RX0 55 yX0_cover, Cond.instanceMethod yX0_cover, Cond.selects RX0 yX0_cover yX0_cover, Cond.code yX0_cover cX0_cover 5 none, Cond.methodLink RX0 203 yX0_findNeighbours, Cond.instanceMethod yX0_findNeighbours, Cond.selects RX0 yX0_findNeighbours yX0_findNeighbours, Cond.code yX0_findNeighbours cX0_findNeighbours 2 none, Cond.fieldLink RX0 13 "FourTints" "there" "I", Cond.fieldLink RX0 17 "FourTints" "near" "[I", Cond.methodLink RX0 200 yX0_spread, Cond.static yX0_spread, Cond.code yX0_spread cX0_spread 2 (some .long), Cond.methodLink RX0 98 yX0_above, Cond.static yX0_above, Cond.code yX0_above cX0_above 2 (some .long), Cond.methodLink RX0 101 yX0_below, Cond.static yX0_below, Cond.code yX0_below cX0_below 2 (some .long), Cond.methodLink RX0 104 yX0_leftOf]
def wsX0_paintBlock_r3 : List Cond := [Cond.static yX0_leftOf, Cond.code yX0_leftOf cX0_leftOf 2 (some .long), Cond.constantLong RX0 196 (-1090785346), Cond.methodLink RX0 107 yX0_rightOf, Cond.static yX0_rightOf, Cond.code yX0_rightOf cX0_rightOf 2 (some .long), Cond.constantLong RX0 198 (-34905131041), Cond.methodLink RX0 206 yX0_thoseIn, Cond.instanceMethod yX0_thoseIn, Cond.selects RX0 yX0_thoseIn yX0_thoseIn, Cond.code yX0_thoseIn cX0_thoseIn 5 (some .int)]
def wsX0_paintBlock : List Cond := .code yX0_paintBlock cX0_paintBlock 9 (some .int) :: ((wsX0_paintBlock_r1 ++ (wsX0_paintBlock_r2 ++ wsX0_paintBlock_r3)) ++ wsX00 ++ (vx_atS RX0 63 "java/lang/IllegalArgumentException" ["java/lang/RuntimeException", "java/lang/Exception"]).filter goodWord ++ (vx_atS RX0 182 "java/lang/IndexOutOfBoundsException" ["java/lang/RuntimeException", "java/lang/Exception"]).filter goodWord)
def wsX0_countryAt : List Cond := .code yX0_countryAt cX0_countryAt 3 (some .int) :: ([.methodLink RX0 39 yX0_checkCell, .static yX0_checkCell, .initialized RX0, .code yX0_checkCell cX0_checkCell 2 none, .classLink RX0 178 "java/lang/IndexOutOfBoundsException", .initialized "java/lang/IndexOutOfBoundsException", .methodLink RX0 47 yX0_block, .static yX0_block, .code yX0_block cX0_block 8 (some .long), .methodLink RX0 51 yX0_ownerOf, .instanceMethod yX0_ownerOf, .selects RX0 yX0_ownerOf yX0_ownerOf, .code yX0_ownerOf cX0_ownerOf 4 (some .int), .fieldLink RX0 9 "FourTints" "land" "[J"] ++ wsX00 ++ (vx_atS RX0 182 "java/lang/IndexOutOfBoundsException" ["java/lang/RuntimeException", "java/lang/Exception"]).filter goodWord)
def wsJ6_bitCount_0f7a4 : List Cond := .code yJ6_bitCount_0f7a4 cJ6_bitCount_0f7a4 1 (some .int) :: ([.constant RJ6 265 (1431655765), .constant RJ6 266 (858993459), .constant RJ6 267 (252645135)])
def wsX0_countries : List Cond := .code yX0_countries cX0_countries 1 (some .int) :: ([.fieldLink RX0 13 "FourTints" "there" "I", .methodLink RX0 77 yJ6_bitCount_0f7a4, .static yJ6_bitCount_0f7a4, .initialized RJ6, .code yJ6_bitCount_0f7a4 cJ6_bitCount_0f7a4 1 (some .int), .constant RJ6 265 (1431655765), .constant RJ6 266 (858993459), .constant RJ6 267 (252645135)] ++ wsX00)
def wsX0_checkCountry : List Cond := .code yX0_checkCountry cX0_checkCountry 1 none :: ([.classLink RX0 178 "java/lang/IndexOutOfBoundsException", .initialized "java/lang/IndexOutOfBoundsException"] ++ (vx_atS RX0 182 "java/lang/IndexOutOfBoundsException" ["java/lang/RuntimeException", "java/lang/Exception"]).filter goodWord)
def wsX0_area : List Cond := .code yX0_area cX0_area 2 (some .int) :: ([.fieldLink RX0 9 "FourTints" "land" "[J", .methodLink RX0 82 yX0_checkCountry, .static yX0_checkCountry, .initialized RX0, .code yX0_checkCountry cX0_checkCountry 1 none, .classLink RX0 178 "java/lang/IndexOutOfBoundsException", .initialized "java/lang/IndexOutOfBoundsException", .methodLink RX0 72 yJ13_bitCount_95d88, .static yJ13_bitCount_95d88, .initialized RJ13, .code yJ13_bitCount_95d88 cJ13_bitCount_95d88 2 (some .int), .constantLong RJ13 314 (6148914691236517205), .constantLong RJ13 316 (3689348814741910323), .constantLong RJ13 318 (1085102592571150095)] ++ wsX00 ++ (vx_atS RX0 182 "java/lang/IndexOutOfBoundsException" ["java/lang/RuntimeException", "java/lang/Exception"]).filter goodWord)
def wsX0_reach : List Cond := .code yX0_reach cX0_reach 9 (some .long) :: ([.methodLink RX0 200 yX0_spread, .static yX0_spread, .initialized RX0, .code yX0_spread cX0_spread 2 (some .long), .methodLink RX0 98 yX0_above, .static yX0_above, .code yX0_above cX0_above 2 (some .long), .methodLink RX0 101 yX0_below, .static yX0_below, .code yX0_below cX0_below 2 (some .long), .constantLong RX0 110 (68719476735), .methodLink RX0 104 yX0_leftOf, .static yX0_leftOf, .code yX0_leftOf cX0_leftOf 2 (some .long), .constantLong RX0 196 (-1090785346), .methodLink RX0 107 yX0_rightOf, .static yX0_rightOf, .code yX0_rightOf cX0_rightOf 2 (some .long), .constantLong RX0 198 (-34905131041)])
def wsX0_pieceIn : List Cond := .code yX0_pieceIn cX0_pieceIn 2 (some .long) :: ([.methodLink RX0 114 yX0_reach, .static yX0_reach, .initialized RX0, .code yX0_reach cX0_reach 9 (some .long), .methodLink RX0 200 yX0_spread, .static yX0_spread, .code yX0_spread cX0_spread 2 (some .long), .methodLink RX0 98 yX0_above, .static yX0_above, .code yX0_above cX0_above 2 (some .long), .methodLink RX0 101 yX0_below, .static yX0_below, .code yX0_below cX0_below 2 (some .long), .constantLong RX0 110 (68719476735), .methodLink RX0 104 yX0_leftOf, .static yX0_leftOf, .code yX0_leftOf cX0_leftOf 2 (some .long), .constantLong RX0 196 (-1090785346), .methodLink RX0 107 yX0_rightOf, .static yX0_rightOf, .code yX0_rightOf cX0_rightOf 2 (some .long), .constantLong RX0 198 (-34905131041)])
def wsX0_countPieces_r1 : List Cond := [Cond.constantLong RX0 70 (-1), Cond.methodLink RX0 88 yX0_pieceIn, Cond.static yX0_pieceIn, Cond.initialized RX0, Cond.code yX0_pieceIn cX0_pieceIn 2 (some .long), Cond.methodLink RX0 114 yX0_reach, Cond.static yX0_reach, Cond.code yX0_reach cX0_reach 9 (some .long), Cond.methodLink RX0 200 yX0_spread, Cond.static yX0_spread, Cond.code yX0_spread cX0_spread 2 (some .long), Cond.methodLink RX0 98 yX0_above, Cond.static yX0_above, Cond.code yX0_above cX0_above 2 (some .long), Cond.methodLink RX0 101 yX0_below, Cond.static yX0_below, Cond.code yX0_below cX0_below 2 (some .long), Cond.constantLong RX0 110 (68719476735), Cond.methodLink RX0 104 yX0_leftOf, Cond.static yX0_leftOf, Cond.code yX0_leftOf cX0_leftOf 2 (some .long), Cond.constantLong RX0 196 (-1090785346), Cond.methodLink RX0 107 yX0_rightOf, Cond.static yX0_rightOf]
def wsX0_countPieces_r2 : List Cond := [Cond.code yX0_rightOf cX0_rightOf 2 (some .long), Cond.constantLong RX0 198 (-34905131041)]
def wsX0_countPieces : List Cond := .code yX0_countPieces cX0_countPieces 5 (some .int) :: ((wsX0_countPieces_r1 ++ wsX0_countPieces_r2))
def wsX0_pieces_r1 : List Cond := [Cond.fieldLink RX0 9 "FourTints" "land" "[J", Cond.methodLink RX0 82 yX0_checkCountry, Cond.static yX0_checkCountry, Cond.initialized RX0, Cond.code yX0_checkCountry cX0_checkCountry 1 none, Cond.classLink RX0 178 "java/lang/IndexOutOfBoundsException", Cond.initialized "java/lang/IndexOutOfBoundsException", Cond.methodLink RX0 85 yX0_countPieces, Cond.static yX0_countPieces, Cond.code yX0_countPieces cX0_countPieces 5 (some .int), Cond.constantLong RX0 70 (-1), Cond.methodLink RX0 88 yX0_pieceIn, Cond.static yX0_pieceIn, Cond.code yX0_pieceIn cX0_pieceIn 2 (some .long), Cond.methodLink RX0 114 yX0_reach, Cond.static yX0_reach, Cond.code yX0_reach cX0_reach 9 (some .long), Cond.methodLink RX0 200 yX0_spread, Cond.static yX0_spread, Cond.code yX0_spread cX0_spread 2 (some .long), Cond.methodLink RX0 98 yX0_above, Cond.static yX0_above, Cond.code yX0_above cX0_above 2 (some .long), Cond.methodLink RX0 101 yX0_below]
def wsX0_pieces_r2 : List Cond := [Cond.static yX0_below, Cond.code yX0_below cX0_below 2 (some .long), Cond.constantLong RX0 110 (68719476735), Cond.methodLink RX0 104 yX0_leftOf, Cond.static yX0_leftOf, Cond.code yX0_leftOf cX0_leftOf 2 (some .long), Cond.constantLong RX0 196 (-1090785346), Cond.methodLink RX0 107 yX0_rightOf, Cond.static yX0_rightOf, Cond.code yX0_rightOf cX0_rightOf 2 (some .long), Cond.constantLong RX0 198 (-34905131041)]
def wsX0_pieces : List Cond := .code yX0_pieces cX0_pieces 2 (some .int) :: ((wsX0_pieces_r1 ++ wsX0_pieces_r2) ++ wsX00 ++ (vx_atS RX0 182 "java/lang/IndexOutOfBoundsException" ["java/lang/RuntimeException", "java/lang/Exception"]).filter goodWord)
def wsX0_largestPiece_r1 : List Cond := [Cond.fieldLink RX0 9 "FourTints" "land" "[J", Cond.methodLink RX0 92 Lib.Math.max.name, Cond.static Lib.Math.max.name, Cond.initialized "java/lang/Math", Cond.code Lib.Math.max.name Lib.Math.max.code 2 (some .int), Cond.constantLong RX0 70 (-1), Cond.methodLink RX0 82 yX0_checkCountry, Cond.static yX0_checkCountry, Cond.initialized RX0, Cond.code yX0_checkCountry cX0_checkCountry 1 none, Cond.classLink RX0 178 "java/lang/IndexOutOfBoundsException", Cond.initialized "java/lang/IndexOutOfBoundsException", Cond.methodLink RX0 88 yX0_pieceIn, Cond.static yX0_pieceIn, Cond.code yX0_pieceIn cX0_pieceIn 2 (some .long), Cond.methodLink RX0 114 yX0_reach, Cond.static yX0_reach, Cond.code yX0_reach cX0_reach 9 (some .long), Cond.methodLink RX0 200 yX0_spread, Cond.static yX0_spread, Cond.code yX0_spread cX0_spread 2 (some .long), Cond.methodLink RX0 98 yX0_above, Cond.static yX0_above, Cond.code yX0_above cX0_above 2 (some .long)]
def wsX0_largestPiece_r2 : List Cond := [Cond.methodLink RX0 101 yX0_below, Cond.static yX0_below, Cond.code yX0_below cX0_below 2 (some .long), Cond.constantLong RX0 110 (68719476735), Cond.methodLink RX0 104 yX0_leftOf, Cond.static yX0_leftOf, Cond.code yX0_leftOf cX0_leftOf 2 (some .long), Cond.constantLong RX0 196 (-1090785346), Cond.methodLink RX0 107 yX0_rightOf, Cond.static yX0_rightOf, Cond.code yX0_rightOf cX0_rightOf 2 (some .long), Cond.constantLong RX0 198 (-34905131041), Cond.methodLink RX0 72 yJ13_bitCount_95d88, Cond.static yJ13_bitCount_95d88, Cond.initialized RJ13, Cond.code yJ13_bitCount_95d88 cJ13_bitCount_95d88 2 (some .int), Cond.constantLong RJ13 314 (6148914691236517205), Cond.constantLong RJ13 316 (3689348814741910323), Cond.constantLong RJ13 318 (1085102592571150095)]
def wsX0_largestPiece : List Cond := .code yX0_largestPiece cX0_largestPiece 8 (some .int) :: ((wsX0_largestPiece_r1 ++ wsX0_largestPiece_r2) ++ wsX00 ++ (vx_atS RX0 182 "java/lang/IndexOutOfBoundsException" ["java/lang/RuntimeException", "java/lang/Exception"]).filter goodWord)
def wsX0_scattered_r1 : List Cond := [Cond.fieldLink RX0 9 "FourTints" "land" "[J", Cond.methodLink RX0 85 yX0_countPieces, Cond.static yX0_countPieces, Cond.initialized RX0, Cond.code yX0_countPieces cX0_countPieces 5 (some .int), Cond.constantLong RX0 70 (-1), Cond.methodLink RX0 88 yX0_pieceIn, Cond.static yX0_pieceIn, Cond.code yX0_pieceIn cX0_pieceIn 2 (some .long), Cond.methodLink RX0 114 yX0_reach, Cond.static yX0_reach, Cond.code yX0_reach cX0_reach 9 (some .long), Cond.methodLink RX0 200 yX0_spread, Cond.static yX0_spread, Cond.code yX0_spread cX0_spread 2 (some .long), Cond.methodLink RX0 98 yX0_above, Cond.static yX0_above, Cond.code yX0_above cX0_above 2 (some .long), Cond.methodLink RX0 101 yX0_below, Cond.static yX0_below, Cond.code yX0_below cX0_below 2 (some .long), Cond.constantLong RX0 110 (68719476735), Cond.methodLink RX0 104 yX0_leftOf, Cond.static yX0_leftOf]
def wsX0_scattered_r2 : List Cond := [Cond.code yX0_leftOf cX0_leftOf 2 (some .long), Cond.constantLong RX0 196 (-1090785346), Cond.methodLink RX0 107 yX0_rightOf, Cond.static yX0_rightOf, Cond.code yX0_rightOf cX0_rightOf 2 (some .long), Cond.constantLong RX0 198 (-34905131041)]
def wsX0_scattered : List Cond := .code yX0_scattered cX0_scattered 3 (some .int) :: ((wsX0_scattered_r1 ++ wsX0_scattered_r2) ++ wsX00)
def wsX0_neighbours : List Cond := .code yX0_neighbours cX0_neighbours 2 (some .int) :: ([.fieldLink RX0 17 "FourTints" "near" "[I", .methodLink RX0 82 yX0_checkCountry, .static yX0_checkCountry, .initialized RX0, .code yX0_checkCountry cX0_checkCountry 1 none, .classLink RX0 178 "java/lang/IndexOutOfBoundsException", .initialized "java/lang/IndexOutOfBoundsException", .methodLink RX0 77 yJ6_bitCount_0f7a4, .static yJ6_bitCount_0f7a4, .initialized RJ6, .code yJ6_bitCount_0f7a4 cJ6_bitCount_0f7a4 1 (some .int), .constant RJ6 265 (1431655765), .constant RJ6 266 (858993459), .constant RJ6 267 (252645135)] ++ wsX00 ++ (vx_atS RX0 182 "java/lang/IndexOutOfBoundsException" ["java/lang/RuntimeException", "java/lang/Exception"]).filter goodWord)
def wsX0_border_r1 : List Cond := [Cond.fieldLink RX0 9 "FourTints" "land" "[J", Cond.methodLink RX0 82 yX0_checkCountry, Cond.static yX0_checkCountry, Cond.initialized RX0, Cond.code yX0_checkCountry cX0_checkCountry 1 none, Cond.classLink RX0 178 "java/lang/IndexOutOfBoundsException", Cond.initialized "java/lang/IndexOutOfBoundsException", Cond.methodLink RX0 98 yX0_above, Cond.static yX0_above, Cond.code yX0_above cX0_above 2 (some .long), Cond.methodLink RX0 72 yJ13_bitCount_95d88, Cond.static yJ13_bitCount_95d88, Cond.initialized RJ13, Cond.code yJ13_bitCount_95d88 cJ13_bitCount_95d88 2 (some .int), Cond.constantLong RJ13 314 (6148914691236517205), Cond.constantLong RJ13 316 (3689348814741910323), Cond.constantLong RJ13 318 (1085102592571150095), Cond.methodLink RX0 101 yX0_below, Cond.static yX0_below, Cond.code yX0_below cX0_below 2 (some .long), Cond.constantLong RX0 110 (68719476735), Cond.methodLink RX0 104 yX0_leftOf, Cond.static yX0_leftOf, Cond.code yX0_leftOf cX0_leftOf 2 (some .long)]
def wsX0_border_r2 : List Cond := [Cond.constantLong RX0 196 (-1090785346), Cond.methodLink RX0 107 yX0_rightOf, Cond.static yX0_rightOf, Cond.code yX0_rightOf cX0_rightOf 2 (some .long), Cond.constantLong RX0 198 (-34905131041)]
def wsX0_border : List Cond := .code yX0_border cX0_border 7 (some .int) :: ((wsX0_border_r1 ++ wsX0_border_r2) ++ wsX00 ++ (vx_atS RX0 182 "java/lang/IndexOutOfBoundsException" ["java/lang/RuntimeException", "java/lang/Exception"]).filter goodWord)
def wsX0_enclosed_r1 : List Cond := [Cond.constantLong RX0 110 (68719476735), Cond.fieldLink RX0 9 "FourTints" "land" "[J", Cond.constantLong RX0 70 (-1), Cond.constantLong RX0 112 (68208171135), Cond.methodLink RX0 82 yX0_checkCountry, Cond.static yX0_checkCountry, Cond.initialized RX0, Cond.code yX0_checkCountry cX0_checkCountry 1 none, Cond.classLink RX0 178 "java/lang/IndexOutOfBoundsException", Cond.initialized "java/lang/IndexOutOfBoundsException", Cond.methodLink RX0 114 yX0_reach, Cond.static yX0_reach, Cond.code yX0_reach cX0_reach 9 (some .long), Cond.methodLink RX0 200 yX0_spread, Cond.static yX0_spread, Cond.code yX0_spread cX0_spread 2 (some .long), Cond.methodLink RX0 98 yX0_above, Cond.static yX0_above, Cond.code yX0_above cX0_above 2 (some .long), Cond.methodLink RX0 101 yX0_below, Cond.static yX0_below, Cond.code yX0_below cX0_below 2 (some .long), Cond.methodLink RX0 104 yX0_leftOf, Cond.static yX0_leftOf]
def wsX0_enclosed_r2 : List Cond := [Cond.code yX0_leftOf cX0_leftOf 2 (some .long), Cond.constantLong RX0 196 (-1090785346), Cond.methodLink RX0 107 yX0_rightOf, Cond.static yX0_rightOf, Cond.code yX0_rightOf cX0_rightOf 2 (some .long), Cond.constantLong RX0 198 (-34905131041), Cond.methodLink RX0 72 yJ13_bitCount_95d88, Cond.static yJ13_bitCount_95d88, Cond.initialized RJ13, Cond.code yJ13_bitCount_95d88 cJ13_bitCount_95d88 2 (some .int), Cond.constantLong RJ13 314 (6148914691236517205), Cond.constantLong RJ13 316 (3689348814741910323), Cond.constantLong RJ13 318 (1085102592571150095)]
def wsX0_enclosed : List Cond := .code yX0_enclosed cX0_enclosed 6 (some .int) :: ((wsX0_enclosed_r1 ++ wsX0_enclosed_r2) ++ wsX00 ++ (vx_atS RX0 182 "java/lang/IndexOutOfBoundsException" ["java/lang/RuntimeException", "java/lang/Exception"]).filter goodWord)
def wsX0_markSetsOfNeighbours : List Cond := .code yX0_markSetsOfNeighbours cX0_markSetsOfNeighbours 3 none :: ([.fieldLink RX0 27 "FourTints" "fits" "[Z", .fieldLink RX0 17 "FourTints" "near" "[I"] ++ wsX00)
def wsX0_allNeighbours : List Cond := .code yX0_allNeighbours cX0_allNeighbours 3 (some .int) :: ([.fieldLink RX0 27 "FourTints" "fits" "[Z", .fieldLink RX0 13 "FourTints" "there" "I", .methodLink RX0 92 Lib.Math.max.name, .static Lib.Math.max.name, .initialized "java/lang/Math", .code Lib.Math.max.name Lib.Math.max.code 2 (some .int), .methodLink RX0 118 yX0_markSetsOfNeighbours, .instanceMethod yX0_markSetsOfNeighbours, .selects RX0 yX0_markSetsOfNeighbours yX0_markSetsOfNeighbours, .initialized RX0, .code yX0_markSetsOfNeighbours cX0_markSetsOfNeighbours 3 none, .fieldLink RX0 17 "FourTints" "near" "[I", .methodLink RX0 77 yJ6_bitCount_0f7a4, .static yJ6_bitCount_0f7a4, .initialized RJ6, .code yJ6_bitCount_0f7a4 cJ6_bitCount_0f7a4 1 (some .int), .constant RJ6 265 (1431655765), .constant RJ6 266 (858993459), .constant RJ6 267 (252645135)] ++ wsX00)
def wsX0_checkTint : List Cond := .code yX0_checkTint cX0_checkTint 1 none :: ([.classLink RX0 59 "java/lang/IllegalArgumentException", .initialized "java/lang/IllegalArgumentException"] ++ (vx_atS RX0 63 "java/lang/IllegalArgumentException" ["java/lang/RuntimeException", "java/lang/Exception"]).filter goodWord)
def wsX0_tint : List Cond := .code yX0_tint cX0_tint 4 (some .int) :: ([.fieldLink RX0 21 "FourTints" "worn" "[I", .methodLink RX0 82 yX0_checkCountry, .static yX0_checkCountry, .initialized RX0, .code yX0_checkCountry cX0_checkCountry 1 none, .classLink RX0 178 "java/lang/IndexOutOfBoundsException", .initialized "java/lang/IndexOutOfBoundsException", .methodLink RX0 121 yX0_checkTint, .static yX0_checkTint, .code yX0_checkTint cX0_checkTint 1 none, .classLink RX0 59 "java/lang/IllegalArgumentException", .initialized "java/lang/IllegalArgumentException"] ++ wsX00 ++ (vx_atS RX0 182 "java/lang/IndexOutOfBoundsException" ["java/lang/RuntimeException", "java/lang/Exception"]).filter goodWord ++ (vx_atS RX0 63 "java/lang/IllegalArgumentException" ["java/lang/RuntimeException", "java/lang/Exception"]).filter goodWord)
def wsX0_tintOf : List Cond := .code yX0_tintOf cX0_tintOf 2 (some .int) :: ([.fieldLink RX0 21 "FourTints" "worn" "[I", .methodLink RX0 82 yX0_checkCountry, .static yX0_checkCountry, .initialized RX0, .code yX0_checkCountry cX0_checkCountry 1 none, .classLink RX0 178 "java/lang/IndexOutOfBoundsException", .initialized "java/lang/IndexOutOfBoundsException"] ++ wsX00 ++ (vx_atS RX0 182 "java/lang/IndexOutOfBoundsException" ["java/lang/RuntimeException", "java/lang/Exception"]).filter goodWord)
def wsX0_wearing : List Cond := .code yX0_wearing cX0_wearing 4 (some .int) :: ([.fieldLink RX0 21 "FourTints" "worn" "[I"] ++ wsX00)
def wsX0_conflicts : List Cond := .code yX0_conflicts cX0_conflicts 3 (some .int) :: ([.fieldLink RX0 21 "FourTints" "worn" "[I", .fieldLink RX0 17 "FourTints" "near" "[I", .methodLink RX0 124 yX0_wearing, .instanceMethod yX0_wearing, .selects RX0 yX0_wearing yX0_wearing, .initialized RX0, .code yX0_wearing cX0_wearing 4 (some .int), .methodLink RX0 77 yJ6_bitCount_0f7a4, .static yJ6_bitCount_0f7a4, .initialized RJ6, .code yJ6_bitCount_0f7a4 cJ6_bitCount_0f7a4 1 (some .int), .constant RJ6 265 (1431655765), .constant RJ6 266 (858993459), .constant RJ6 267 (252645135)] ++ wsX00)
def wsX0_isTinted : List Cond := .code yX0_isTinted cX0_isTinted 1 (some .boolean) :: ([.fieldLink RX0 13 "FourTints" "there" "I", .methodLink RX0 124 yX0_wearing, .instanceMethod yX0_wearing, .selects RX0 yX0_wearing yX0_wearing, .initialized RX0, .code yX0_wearing cX0_wearing 4 (some .int), .fieldLink RX0 21 "FourTints" "worn" "[I", .methodLink RX0 127 yX0_conflicts, .instanceMethod yX0_conflicts, .selects RX0 yX0_conflicts yX0_conflicts, .code yX0_conflicts cX0_conflicts 3 (some .int), .fieldLink RX0 17 "FourTints" "near" "[I", .methodLink RX0 77 yJ6_bitCount_0f7a4, .static yJ6_bitCount_0f7a4, .initialized RJ6, .code yJ6_bitCount_0f7a4 cJ6_bitCount_0f7a4 1 (some .int), .constant RJ6 265 (1431655765), .constant RJ6 266 (858993459), .constant RJ6 267 (252645135)] ++ wsX00)
def wsX0_leastFreeBeside : List Cond := .code yX0_leastFreeBeside cX0_leastFreeBeside 3 (some .int) :: ([.methodLink RX0 124 yX0_wearing, .instanceMethod yX0_wearing, .selects RX0 yX0_wearing yX0_wearing, .initialized RX0, .code yX0_wearing cX0_wearing 4 (some .int), .fieldLink RX0 21 "FourTints" "worn" "[I"] ++ wsX00)
def wsX0_leastFree : List Cond := .code yX0_leastFree cX0_leastFree 2 (some .int) :: ([.fieldLink RX0 17 "FourTints" "near" "[I", .methodLink RX0 82 yX0_checkCountry, .static yX0_checkCountry, .initialized RX0, .code yX0_checkCountry cX0_checkCountry 1 none, .classLink RX0 178 "java/lang/IndexOutOfBoundsException", .initialized "java/lang/IndexOutOfBoundsException", .methodLink RX0 131 yX0_leastFreeBeside, .instanceMethod yX0_leastFreeBeside, .selects RX0 yX0_leastFreeBeside yX0_leastFreeBeside, .code yX0_leastFreeBeside cX0_leastFreeBeside 3 (some .int), .methodLink RX0 124 yX0_wearing, .instanceMethod yX0_wearing, .selects RX0 yX0_wearing yX0_wearing, .code yX0_wearing cX0_wearing 4 (some .int), .fieldLink RX0 21 "FourTints" "worn" "[I"] ++ wsX00 ++ (vx_atS RX0 182 "java/lang/IndexOutOfBoundsException" ["java/lang/RuntimeException", "java/lang/Exception"]).filter goodWord)
def wsX0_has : List Cond := .code yX0_has cX0_has 2 (some .boolean) :: ([])
def wsX0_checkTinted : List Cond := .code yX0_checkTinted cX0_checkTinted 2 none :: ([.classLink RX0 191 "java/lang/IllegalStateException", .initialized "java/lang/IllegalStateException", .fieldLink RX0 13 "FourTints" "there" "I", .fieldLink RX0 21 "FourTints" "worn" "[I", .methodLink RX0 140 yX0_has, .static yX0_has, .initialized RX0, .code yX0_has cX0_has 2 (some .boolean)] ++ wsX00 ++ (vx_atS RX0 195 "java/lang/IllegalStateException" ["java/lang/RuntimeException", "java/lang/Exception"]).filter goodWord)
def wsX0_chainOf : List Cond := .code yX0_chainOf cX0_chainOf 8 (some .int) :: ([.fieldLink RX0 13 "FourTints" "there" "I", .fieldLink RX0 21 "FourTints" "worn" "[I", .fieldLink RX0 17 "FourTints" "near" "[I", .methodLink RX0 124 yX0_wearing, .instanceMethod yX0_wearing, .selects RX0 yX0_wearing yX0_wearing, .initialized RX0, .code yX0_wearing cX0_wearing 4 (some .int), .methodLink RX0 140 yX0_has, .static yX0_has, .code yX0_has cX0_has 2 (some .boolean)] ++ wsX00)
def wsX0_chain_r1 : List Cond := [Cond.methodLink RX0 82 yX0_checkCountry, Cond.static yX0_checkCountry, Cond.initialized RX0, Cond.code yX0_checkCountry cX0_checkCountry 1 none, Cond.classLink RX0 178 "java/lang/IndexOutOfBoundsException", Cond.initialized "java/lang/IndexOutOfBoundsException", Cond.methodLink RX0 121 yX0_checkTint, Cond.static yX0_checkTint, Cond.code yX0_checkTint cX0_checkTint 1 none, Cond.classLink RX0 59 "java/lang/IllegalArgumentException", Cond.initialized "java/lang/IllegalArgumentException", Cond.methodLink RX0 134 yX0_checkTinted, Cond.instanceMethod yX0_checkTinted, Cond.selects RX0 yX0_checkTinted yX0_checkTinted, Cond.code yX0_checkTinted cX0_checkTinted 2 none, Cond.classLink RX0 191 "java/lang/IllegalStateException", Cond.initialized "java/lang/IllegalStateException", Cond.fieldLink RX0 13 "FourTints" "there" "I", Cond.fieldLink RX0 21 "FourTints" "worn" "[I", Cond.methodLink RX0 140 yX0_has, Cond.static yX0_has, Cond.code yX0_has cX0_has 2 (some .boolean), Cond.methodLink RX0 137 yX0_chainOf, Cond.instanceMethod yX0_chainOf]
def wsX0_chain_r2 : List Cond := [Cond.selects RX0 yX0_chainOf yX0_chainOf, Cond.code yX0_chainOf cX0_chainOf 8 (some .int), Cond.fieldLink RX0 17 "FourTints" "near" "[I", Cond.methodLink RX0 124 yX0_wearing, Cond.instanceMethod yX0_wearing, Cond.selects RX0 yX0_wearing yX0_wearing, Cond.code yX0_wearing cX0_wearing 4 (some .int), Cond.methodLink RX0 77 yJ6_bitCount_0f7a4, Cond.static yJ6_bitCount_0f7a4, Cond.initialized RJ6, Cond.code yJ6_bitCount_0f7a4 cJ6_bitCount_0f7a4 1 (some .int), Cond.constant RJ6 265 (1431655765), Cond.constant RJ6 266 (858993459), Cond.constant RJ6 267 (252645135)]
def wsX0_chain : List Cond := .code yX0_chain cX0_chain 3 (some .int) :: ((wsX0_chain_r1 ++ wsX0_chain_r2) ++ wsX00 ++ (vx_atS RX0 182 "java/lang/IndexOutOfBoundsException" ["java/lang/RuntimeException", "java/lang/Exception"]).filter goodWord ++ (vx_atS RX0 63 "java/lang/IllegalArgumentException" ["java/lang/RuntimeException", "java/lang/Exception"]).filter goodWord ++ (vx_atS RX0 195 "java/lang/IllegalStateException" ["java/lang/RuntimeException", "java/lang/Exception"]).filter goodWord)
def wsX0_exchange_r1 : List Cond := [Cond.fieldLink RX0 21 "FourTints" "worn" "[I", Cond.methodLink RX0 82 yX0_checkCountry, Cond.static yX0_checkCountry, Cond.initialized RX0, Cond.code yX0_checkCountry cX0_checkCountry 1 none, Cond.classLink RX0 178 "java/lang/IndexOutOfBoundsException", Cond.initialized "java/lang/IndexOutOfBoundsException", Cond.methodLink RX0 121 yX0_checkTint, Cond.static yX0_checkTint, Cond.code yX0_checkTint cX0_checkTint 1 none, Cond.classLink RX0 59 "java/lang/IllegalArgumentException", Cond.initialized "java/lang/IllegalArgumentException", Cond.methodLink RX0 134 yX0_checkTinted, Cond.instanceMethod yX0_checkTinted, Cond.selects RX0 yX0_checkTinted yX0_checkTinted, Cond.code yX0_checkTinted cX0_checkTinted 2 none, Cond.classLink RX0 191 "java/lang/IllegalStateException", Cond.initialized "java/lang/IllegalStateException", Cond.fieldLink RX0 13 "FourTints" "there" "I", Cond.methodLink RX0 140 yX0_has, Cond.static yX0_has, Cond.code yX0_has cX0_has 2 (some .boolean), Cond.methodLink RX0 137 yX0_chainOf, Cond.instanceMethod yX0_chainOf]
def wsX0_exchange_r2 : List Cond := [Cond.selects RX0 yX0_chainOf yX0_chainOf, Cond.code yX0_chainOf cX0_chainOf 8 (some .int), Cond.fieldLink RX0 17 "FourTints" "near" "[I", Cond.methodLink RX0 124 yX0_wearing, Cond.instanceMethod yX0_wearing, Cond.selects RX0 yX0_wearing yX0_wearing, Cond.code yX0_wearing cX0_wearing 4 (some .int), Cond.methodLink RX0 77 yJ6_bitCount_0f7a4, Cond.static yJ6_bitCount_0f7a4, Cond.initialized RJ6, Cond.code yJ6_bitCount_0f7a4 cJ6_bitCount_0f7a4 1 (some .int), Cond.constant RJ6 265 (1431655765), Cond.constant RJ6 266 (858993459), Cond.constant RJ6 267 (252645135)]
def wsX0_exchange : List Cond := .code yX0_exchange cX0_exchange 6 (some .int) :: ((wsX0_exchange_r1 ++ wsX0_exchange_r2) ++ wsX00 ++ (vx_atS RX0 182 "java/lang/IndexOutOfBoundsException" ["java/lang/RuntimeException", "java/lang/Exception"]).filter goodWord ++ (vx_atS RX0 63 "java/lang/IllegalArgumentException" ["java/lang/RuntimeException", "java/lang/Exception"]).filter goodWord ++ (vx_atS RX0 195 "java/lang/IllegalStateException" ["java/lang/RuntimeException", "java/lang/Exception"]).filter goodWord)
def wsX0_giveLeastFree : List Cond := .code yX0_giveLeastFree cX0_giveLeastFree 4 (some .int) :: ([.fieldLink RX0 21 "FourTints" "worn" "[I", .fieldLink RX0 17 "FourTints" "near" "[I", .methodLink RX0 92 Lib.Math.max.name, .static Lib.Math.max.name, .initialized "java/lang/Math", .code Lib.Math.max.name Lib.Math.max.code 2 (some .int), .methodLink RX0 140 yX0_has, .static yX0_has, .initialized RX0, .code yX0_has cX0_has 2 (some .boolean), .methodLink RX0 131 yX0_leastFreeBeside, .instanceMethod yX0_leastFreeBeside, .selects RX0 yX0_leastFreeBeside yX0_leastFreeBeside, .code yX0_leastFreeBeside cX0_leastFreeBeside 3 (some .int), .methodLink RX0 124 yX0_wearing, .instanceMethod yX0_wearing, .selects RX0 yX0_wearing yX0_wearing, .code yX0_wearing cX0_wearing 4 (some .int)] ++ wsX00)
def wsX0_withNeighbours : List Cond := .code yX0_withNeighbours cX0_withNeighbours 4 (some .int) :: ([.fieldLink RX0 13 "FourTints" "there" "I", .fieldLink RX0 17 "FourTints" "near" "[I", .methodLink RX0 140 yX0_has, .static yX0_has, .initialized RX0, .code yX0_has cX0_has 2 (some .boolean), .methodLink RX0 77 yJ6_bitCount_0f7a4, .static yJ6_bitCount_0f7a4, .initialized RJ6, .code yJ6_bitCount_0f7a4 cJ6_bitCount_0f7a4 1 (some .int), .constant RJ6 265 (1431655765), .constant RJ6 266 (858993459), .constant RJ6 267 (252645135)] ++ wsX00)
def wsX0_tintInOrder_r1 : List Cond := [Cond.fieldLink RX0 13 "FourTints" "there" "I", Cond.fieldLink RX0 21 "FourTints" "worn" "[I", Cond.methodLink RX0 92 Lib.Math.max.name, Cond.static Lib.Math.max.name, Cond.initialized "java/lang/Math", Cond.code Lib.Math.max.name Lib.Math.max.code 2 (some .int), Cond.methodLink RX0 140 yX0_has, Cond.static yX0_has, Cond.initialized RX0, Cond.code yX0_has cX0_has 2 (some .boolean), Cond.methodLink RX0 144 yX0_giveLeastFree, Cond.instanceMethod yX0_giveLeastFree, Cond.selects RX0 yX0_giveLeastFree yX0_giveLeastFree, Cond.code yX0_giveLeastFree cX0_giveLeastFree 4 (some .int), Cond.fieldLink RX0 17 "FourTints" "near" "[I", Cond.methodLink RX0 131 yX0_leastFreeBeside, Cond.instanceMethod yX0_leastFreeBeside, Cond.selects RX0 yX0_leastFreeBeside yX0_leastFreeBeside, Cond.code yX0_leastFreeBeside cX0_leastFreeBeside 3 (some .int), Cond.methodLink RX0 124 yX0_wearing, Cond.instanceMethod yX0_wearing, Cond.selects RX0 yX0_wearing yX0_wearing, Cond.code yX0_wearing cX0_wearing 4 (some .int), Cond.methodLink RX0 147 yX0_withNeighbours]
def wsX0_tintInOrder_r2 : List Cond := [Cond.instanceMethod yX0_withNeighbours, Cond.selects RX0 yX0_withNeighbours yX0_withNeighbours, Cond.code yX0_withNeighbours cX0_withNeighbours 4 (some .int), Cond.methodLink RX0 77 yJ6_bitCount_0f7a4, Cond.static yJ6_bitCount_0f7a4, Cond.initialized RJ6, Cond.code yJ6_bitCount_0f7a4 cJ6_bitCount_0f7a4 1 (some .int), Cond.constant RJ6 265 (1431655765), Cond.constant RJ6 266 (858993459), Cond.constant RJ6 267 (252645135)]
def wsX0_tintInOrder : List Cond := .code yX0_tintInOrder cX0_tintInOrder 4 (some .int) :: ((wsX0_tintInOrder_r1 ++ wsX0_tintInOrder_r2) ++ wsX00)
def wsX0_isFreeIn : List Cond := .code yX0_isFreeIn cX0_isFreeIn 5 (some .boolean) :: ([.methodLink RX0 140 yX0_has, .static yX0_has, .initialized RX0, .code yX0_has cX0_has 2 (some .boolean)])
def wsX0_tryFrom : List Cond := .code yX0_tryFrom cX0_tryFrom 7 (some .boolean) :: ([.methodLink RX0 92 Lib.Math.max.name, .static Lib.Math.max.name, .initialized "java/lang/Math", .code Lib.Math.max.name Lib.Math.max.code 2 (some .int), .methodLink RX0 140 yX0_has, .static yX0_has, .initialized RX0, .code yX0_has cX0_has 2 (some .boolean), .methodLink RX0 209 yX0_tryFrom, .static yX0_tryFrom, .methodLink RX0 213 yX0_isFreeIn, .static yX0_isFreeIn, .code yX0_isFreeIn cX0_isFreeIn 5 (some .boolean)])
def wsX0_tryFewest : List Cond := .code yX0_tryFewest cX0_tryFewest 2 (some .int) :: ([.fieldLink RX0 17 "FourTints" "near" "[I", .fieldLink RX0 13 "FourTints" "there" "I", .fieldLink RX0 24 "FourTints" "trial" "[I", .methodLink RX0 209 yX0_tryFrom, .static yX0_tryFrom, .initialized RX0, .code yX0_tryFrom cX0_tryFrom 7 (some .boolean), .methodLink RX0 92 Lib.Math.max.name, .static Lib.Math.max.name, .initialized "java/lang/Math", .code Lib.Math.max.name Lib.Math.max.code 2 (some .int), .methodLink RX0 140 yX0_has, .static yX0_has, .code yX0_has cX0_has 2 (some .boolean), .methodLink RX0 213 yX0_isFreeIn, .static yX0_isFreeIn, .code yX0_isFreeIn cX0_isFreeIn 5 (some .boolean)] ++ wsX00)
def wsX0_fewestTints : List Cond := .code yX0_fewestTints cX0_fewestTints 1 (some .int) :: ([.methodLink RX0 150 yX0_tryFewest, .instanceMethod yX0_tryFewest, .selects RX0 yX0_tryFewest yX0_tryFewest, .initialized RX0, .code yX0_tryFewest cX0_tryFewest 2 (some .int), .fieldLink RX0 17 "FourTints" "near" "[I", .fieldLink RX0 13 "FourTints" "there" "I", .fieldLink RX0 24 "FourTints" "trial" "[I", .methodLink RX0 209 yX0_tryFrom, .static yX0_tryFrom, .code yX0_tryFrom cX0_tryFrom 7 (some .boolean), .methodLink RX0 92 Lib.Math.max.name, .static Lib.Math.max.name, .initialized "java/lang/Math", .code Lib.Math.max.name Lib.Math.max.code 2 (some .int), .methodLink RX0 140 yX0_has, .static yX0_has, .code yX0_has cX0_has 2 (some .boolean), .methodLink RX0 213 yX0_isFreeIn, .static yX0_isFreeIn, .code yX0_isFreeIn cX0_isFreeIn 5 (some .boolean)] ++ wsX00)
def wsX0_tintWithFewest : List Cond := .code yX0_tintWithFewest cX0_tintWithFewest 3 (some .int) :: ([.fieldLink RX0 13 "FourTints" "there" "I", .fieldLink RX0 21 "FourTints" "worn" "[I", .fieldLink RX0 24 "FourTints" "trial" "[I", .methodLink RX0 150 yX0_tryFewest, .instanceMethod yX0_tryFewest, .selects RX0 yX0_tryFewest yX0_tryFewest, .initialized RX0, .code yX0_tryFewest cX0_tryFewest 2 (some .int), .fieldLink RX0 17 "FourTints" "near" "[I", .methodLink RX0 209 yX0_tryFrom, .static yX0_tryFrom, .code yX0_tryFrom cX0_tryFrom 7 (some .boolean), .methodLink RX0 92 Lib.Math.max.name, .static Lib.Math.max.name, .initialized "java/lang/Math", .code Lib.Math.max.name Lib.Math.max.code 2 (some .int), .methodLink RX0 140 yX0_has, .static yX0_has, .code yX0_has cX0_has 2 (some .boolean), .methodLink RX0 213 yX0_isFreeIn, .static yX0_isFreeIn, .code yX0_isFreeIn cX0_isFreeIn 5 (some .boolean)] ++ wsX00)
def wsX0_checkNumberOfTints : List Cond := .code yX0_checkNumberOfTints cX0_checkNumberOfTints 1 none :: ([.classLink RX0 59 "java/lang/IllegalArgumentException", .initialized "java/lang/IllegalArgumentException"] ++ (vx_atS RX0 63 "java/lang/IllegalArgumentException" ["java/lang/RuntimeException", "java/lang/Exception"]).filter goodWord)
def wsX0_markSetsWithoutNeighbours : List Cond := .code yX0_markSetsWithoutNeighbours cX0_markSetsWithoutNeighbours 3 none :: ([.fieldLink RX0 27 "FourTints" "fits" "[Z", .fieldLink RX0 17 "FourTints" "near" "[I"] ++ wsX00)
def wsJ7_fill_d0a16 : List Cond := .code yJ7_fill_d0a16 cJ7_fill_d0a16 5 none :: ([])
def wsX0_shareOutFrom : List Cond := .code yX0_shareOutFrom cX0_shareOutFrom 8 none :: ([.fieldLink RX0 27 "FourTints" "fits" "[Z", .fieldLink RX0 31 "FourTints" "ways" "[J"] ++ wsX00)
def wsX0_shareOutOneSet : List Cond := .code yX0_shareOutOneSet cX0_shareOutOneSet 4 none :: ([.fieldLink RX0 31 "FourTints" "ways" "[J", .methodLink RX0 217 yX0_shareOutFrom, .instanceMethod yX0_shareOutFrom, .selects RX0 yX0_shareOutFrom yX0_shareOutFrom, .initialized RX0, .code yX0_shareOutFrom cX0_shareOutFrom 8 none, .fieldLink RX0 27 "FourTints" "fits" "[Z"] ++ wsX00)
def wsX0_tintings_r1 : List Cond := [Cond.fieldLink RX0 31 "FourTints" "ways" "[J", Cond.fieldLink RX0 13 "FourTints" "there" "I", Cond.methodLink RX0 153 yX0_checkNumberOfTints, Cond.static yX0_checkNumberOfTints, Cond.initialized RX0, Cond.code yX0_checkNumberOfTints cX0_checkNumberOfTints 1 none, Cond.classLink RX0 59 "java/lang/IllegalArgumentException", Cond.initialized "java/lang/IllegalArgumentException", Cond.methodLink RX0 156 yX0_markSetsWithoutNeighbours, Cond.instanceMethod yX0_markSetsWithoutNeighbours, Cond.selects RX0 yX0_markSetsWithoutNeighbours yX0_markSetsWithoutNeighbours, Cond.code yX0_markSetsWithoutNeighbours cX0_markSetsWithoutNeighbours 3 none, Cond.fieldLink RX0 27 "FourTints" "fits" "[Z", Cond.fieldLink RX0 17 "FourTints" "near" "[I", Cond.methodLink RX0 159 yJ7_fill_d0a16, Cond.static yJ7_fill_d0a16, Cond.initialized RJ7, Cond.code yJ7_fill_d0a16 cJ7_fill_d0a16 5 none, Cond.methodLink RX0 165 yX0_shareOutOneSet, Cond.instanceMethod yX0_shareOutOneSet, Cond.selects RX0 yX0_shareOutOneSet yX0_shareOutOneSet, Cond.code yX0_shareOutOneSet cX0_shareOutOneSet 4 none, Cond.methodLink RX0 217 yX0_shareOutFrom, Cond.instanceMethod yX0_shareOutFrom]
def wsX0_tintings_r2 : List Cond := [Cond.selects RX0 yX0_shareOutFrom yX0_shareOutFrom, Cond.code yX0_shareOutFrom cX0_shareOutFrom 8 none]
def wsX0_tintings : List Cond := .code yX0_tintings cX0_tintings 7 (some .long) :: ((wsX0_tintings_r1 ++ wsX0_tintings_r2) ++ wsX00 ++ (vx_atS RX0 63 "java/lang/IllegalArgumentException" ["java/lang/RuntimeException", "java/lang/Exception"]).filter goodWord)
def wsX0_areAllNeighbours : List Cond := .code yX0_areAllNeighbours cX0_areAllNeighbours 3 (some .boolean) :: ([.methodLink RX0 140 yX0_has, .static yX0_has, .initialized RX0, .code yX0_has cX0_has 2 (some .boolean)])
def wsX0_oneToTintLast : List Cond := .code yX0_oneToTintLast cX0_oneToTintLast 3 (some .int) :: ([.methodLink RX0 140 yX0_has, .static yX0_has, .initialized RX0, .code yX0_has cX0_has 2 (some .boolean), .methodLink RX0 235 yX0_areAllNeighbours, .static yX0_areAllNeighbours, .code yX0_areAllNeighbours cX0_areAllNeighbours 3 (some .boolean)])
def wsX0_firstWithStranger : List Cond := .code yX0_firstWithStranger cX0_firstWithStranger 3 (some .int) :: ([.methodLink RX0 140 yX0_has, .static yX0_has, .initialized RX0, .code yX0_has cX0_has 2 (some .boolean)])
def wsX0_firstOf : List Cond := .code yX0_firstOf cX0_firstOf 2 (some .int) :: ([.methodLink RX0 140 yX0_has, .static yX0_has, .initialized RX0, .code yX0_has cX0_has 2 (some .boolean)])
def wsX0_makeOne : List Cond := .code yX0_makeOne cX0_makeOne 5 none :: ([.methodLink RX0 140 yX0_has, .static yX0_has, .initialized RX0, .code yX0_has cX0_has 2 (some .boolean)])
def wsX0_countByPairs_r1 : List Cond := [Cond.methodLink RX0 221 yX0_oneToTintLast, Cond.static yX0_oneToTintLast, Cond.initialized RX0, Cond.code yX0_oneToTintLast cX0_oneToTintLast 3 (some .int), Cond.methodLink RX0 140 yX0_has, Cond.static yX0_has, Cond.code yX0_has cX0_has 2 (some .boolean), Cond.methodLink RX0 235 yX0_areAllNeighbours, Cond.static yX0_areAllNeighbours, Cond.code yX0_areAllNeighbours cX0_areAllNeighbours 3 (some .boolean), Cond.methodLink RX0 77 yJ6_bitCount_0f7a4, Cond.static yJ6_bitCount_0f7a4, Cond.initialized RJ6, Cond.code yJ6_bitCount_0f7a4 cJ6_bitCount_0f7a4 1 (some .int), Cond.constant RJ6 265 (1431655765), Cond.constant RJ6 266 (858993459), Cond.constant RJ6 267 (252645135), Cond.methodLink RX0 225 yX0_firstWithStranger, Cond.static yX0_firstWithStranger, Cond.code yX0_firstWithStranger cX0_firstWithStranger 3 (some .int), Cond.methodLink RX0 228 yX0_firstOf, Cond.static yX0_firstOf, Cond.code yX0_firstOf cX0_firstOf 2 (some .int), Cond.methodLink RX0 231 yX0_makeOne]
def wsX0_countByPairs_r2 : List Cond := [Cond.static yX0_makeOne, Cond.code yX0_makeOne cX0_makeOne 5 none, Cond.methodLink RX0 174 yX0_countByPairs, Cond.static yX0_countByPairs]
def wsX0_countByPairs : List Cond := .code yX0_countByPairs cX0_countByPairs 14 (some .long) :: ((wsX0_countByPairs_r1 ++ wsX0_countByPairs_r2))
def wsX0_tintingsByPairs_r1 : List Cond := [Cond.fieldLink RX0 17 "FourTints" "near" "[I", Cond.fieldLink RX0 36 "FourTints" "joined" "[[I", Cond.methodLink RX0 168 arraycopyName, Cond.native arraycopyName, Cond.static arraycopyName, Cond.initialized "java/lang/System", Cond.fieldLink RX0 13 "FourTints" "there" "I", Cond.methodLink RX0 153 yX0_checkNumberOfTints, Cond.static yX0_checkNumberOfTints, Cond.initialized RX0, Cond.code yX0_checkNumberOfTints cX0_checkNumberOfTints 1 none, Cond.classLink RX0 59 "java/lang/IllegalArgumentException", Cond.initialized "java/lang/IllegalArgumentException", Cond.methodLink RX0 174 yX0_countByPairs, Cond.static yX0_countByPairs, Cond.code yX0_countByPairs cX0_countByPairs 14 (some .long), Cond.methodLink RX0 221 yX0_oneToTintLast, Cond.static yX0_oneToTintLast, Cond.code yX0_oneToTintLast cX0_oneToTintLast 3 (some .int), Cond.methodLink RX0 140 yX0_has, Cond.static yX0_has, Cond.code yX0_has cX0_has 2 (some .boolean), Cond.methodLink RX0 235 yX0_areAllNeighbours, Cond.static yX0_areAllNeighbours]
def wsX0_tintingsByPairs_r2 : List Cond := [Cond.code yX0_areAllNeighbours cX0_areAllNeighbours 3 (some .boolean), Cond.methodLink RX0 77 yJ6_bitCount_0f7a4, Cond.static yJ6_bitCount_0f7a4, Cond.initialized RJ6, Cond.code yJ6_bitCount_0f7a4 cJ6_bitCount_0f7a4 1 (some .int), Cond.constant RJ6 265 (1431655765), Cond.constant RJ6 266 (858993459), Cond.constant RJ6 267 (252645135), Cond.methodLink RX0 225 yX0_firstWithStranger, Cond.static yX0_firstWithStranger, Cond.code yX0_firstWithStranger cX0_firstWithStranger 3 (some .int), Cond.methodLink RX0 228 yX0_firstOf, Cond.static yX0_firstOf, Cond.code yX0_firstOf cX0_firstOf 2 (some .int), Cond.methodLink RX0 231 yX0_makeOne, Cond.static yX0_makeOne, Cond.code yX0_makeOne cX0_makeOne 5 none]
def wsX0_tintingsByPairs : List Cond := .code yX0_tintingsByPairs cX0_tintingsByPairs 2 (some .long) :: ((wsX0_tintingsByPairs_r1 ++ wsX0_tintingsByPairs_r2) ++ wsX00 ++ (vx_atS RX0 63 "java/lang/IllegalArgumentException" ["java/lang/RuntimeException", "java/lang/Exception"]).filter goodWord)
def wsX1_init : List Cond := .code yX1_init cX1_init 2 none :: ([.methodLink RX1 3 objectInit, .instanceMethod objectInit, .code objectInit ⟨#[0xb1]⟩ 1 none, .arrayClass .int, .fieldLink RX1 9 "FourTintsModel" "cell" "[I", .fieldLink RX1 13 "FourTintsModel" "tint" "[I", .arrayClass .long, .fieldLink RX1 16 "FourTintsModel" "cells" "[J", .fieldLink RX1 20 "FourTintsModel" "near" "[I", .fieldLink RX1 23 "FourTintsModel" "ways" "[J", .fieldLink RX1 26 "FourTintsModel" "more" "[J"] ++ wsX10)
def wsX1_thrown : List Cond := .code yX1_thrown cX1_thrown 1 (some .int) :: ([.fieldLink RX1 29 "FourTintsModel" "thrown" "I"] ++ wsX10)
def wsX1_in : List Cond := .code yX1_in cX1_in 3 (some .boolean) :: ([])
def wsX1_goes : List Cond := .code yX1_goes cX1_goes 4 (some .boolean) :: ([.fieldLink RX1 29 "FourTintsModel" "thrown" "I"] ++ wsX10)
def wsX1_told : List Cond := .code yX1_told cX1_told 2 (some .int) :: ([.fieldLink RX1 29 "FourTintsModel" "thrown" "I"] ++ wsX10)
def wsX1_isCell : List Cond := .code yX1_isCell cX1_isCell 2 (some .boolean) :: ([.methodLink RX1 33 yX1_in, .static yX1_in, .initialized RX1, .code yX1_in cX1_in 3 (some .boolean)])
def wsX1_isCountry : List Cond := .code yX1_isCountry cX1_isCountry 1 (some .boolean) :: ([.methodLink RX1 33 yX1_in, .static yX1_in, .initialized RX1, .code yX1_in cX1_in 3 (some .boolean)])
def wsX1_bits : List Cond := .code yX1_bits cX1_bits 4 (some .int) :: ([])
def wsX1_spread : List Cond := .code yX1_spread cX1_spread 2 (some .long) :: ([.constantLong RX1 37 (-34905131041), .constantLong RX1 39 (-1090785346), .constantLong RX1 41 (68719476735)])
def wsX1_reach : List Cond := .code yX1_reach cX1_reach 8 (some .long) :: ([.methodLink RX1 43 yX1_spread, .static yX1_spread, .initialized RX1, .code yX1_spread cX1_spread 2 (some .long), .constantLong RX1 37 (-34905131041), .constantLong RX1 39 (-1090785346), .constantLong RX1 41 (68719476735)])
def wsX1_looks : List Cond := .code yX1_looks cX1_looks 3 none :: ([.fieldLink RX1 47 "FourTintsModel" "there" "I", .fieldLink RX1 16 "FourTintsModel" "cells" "[J", .fieldLink RX1 9 "FourTintsModel" "cell" "[I", .fieldLink RX1 20 "FourTintsModel" "near" "[I", .methodLink RX1 43 yX1_spread, .static yX1_spread, .initialized RX1, .code yX1_spread cX1_spread 2 (some .long), .constantLong RX1 37 (-34905131041), .constantLong RX1 39 (-1090785346), .constantLong RX1 41 (68719476735)] ++ wsX10)
def wsX1_isThere : List Cond := .code yX1_isThere cX1_isThere 2 (some .boolean) :: ([.fieldLink RX1 47 "FourTintsModel" "there" "I"] ++ wsX10)
def wsX1_paints : List Cond := .code yX1_paints cX1_paints 4 (some .int) :: ([.fieldLink RX1 9 "FourTintsModel" "cell" "[I"] ++ wsX10)
def wsX1_paint : List Cond := .code yX1_paint cX1_paint 6 (some .int) :: ([.fieldLink RX1 9 "FourTintsModel" "cell" "[I", .methodLink RX1 50 yX1_isCell, .static yX1_isCell, .initialized RX1, .code yX1_isCell cX1_isCell 2 (some .boolean), .methodLink RX1 33 yX1_in, .static yX1_in, .code yX1_in cX1_in 3 (some .boolean), .methodLink RX1 54 yX1_isCountry, .static yX1_isCountry, .code yX1_isCountry cX1_isCountry 1 (some .boolean), .methodLink RX1 58 yX1_goes, .instanceMethod yX1_goes, .selects RX1 yX1_goes yX1_goes, .code yX1_goes cX1_goes 4 (some .boolean), .fieldLink RX1 29 "FourTintsModel" "thrown" "I", .methodLink RX1 62 yX1_paints, .instanceMethod yX1_paints, .selects RX1 yX1_paints yX1_paints, .code yX1_paints cX1_paints 4 (some .int)] ++ wsX10)
def wsX1_paintBlock : List Cond := .code yX1_paintBlock cX1_paintBlock 9 (some .int) :: ([.methodLink RX1 50 yX1_isCell, .static yX1_isCell, .initialized RX1, .code yX1_isCell cX1_isCell 2 (some .boolean), .methodLink RX1 33 yX1_in, .static yX1_in, .code yX1_in cX1_in 3 (some .boolean), .methodLink RX1 54 yX1_isCountry, .static yX1_isCountry, .code yX1_isCountry cX1_isCountry 1 (some .boolean), .methodLink RX1 58 yX1_goes, .instanceMethod yX1_goes, .selects RX1 yX1_goes yX1_goes, .code yX1_goes cX1_goes 4 (some .boolean), .fieldLink RX1 29 "FourTintsModel" "thrown" "I", .methodLink RX1 62 yX1_paints, .instanceMethod yX1_paints, .selects RX1 yX1_paints yX1_paints, .code yX1_paints cX1_paints 4 (some .int), .fieldLink RX1 9 "FourTintsModel" "cell" "[I"] ++ wsX10)
def wsX1_countryAt : List Cond := .code yX1_countryAt cX1_countryAt 3 (some .int) :: ([.fieldLink RX1 9 "FourTintsModel" "cell" "[I", .methodLink RX1 50 yX1_isCell, .static yX1_isCell, .initialized RX1, .code yX1_isCell cX1_isCell 2 (some .boolean), .methodLink RX1 33 yX1_in, .static yX1_in, .code yX1_in cX1_in 3 (some .boolean), .methodLink RX1 58 yX1_goes, .instanceMethod yX1_goes, .selects RX1 yX1_goes yX1_goes, .code yX1_goes cX1_goes 4 (some .boolean), .fieldLink RX1 29 "FourTintsModel" "thrown" "I"] ++ wsX10)
def wsX1_countries : List Cond := .code yX1_countries cX1_countries 1 (some .int) :: ([.fieldLink RX1 47 "FourTintsModel" "there" "I", .methodLink RX1 66 yX1_looks, .instanceMethod yX1_looks, .selects RX1 yX1_looks yX1_looks, .initialized RX1, .code yX1_looks cX1_looks 3 none, .fieldLink RX1 16 "FourTintsModel" "cells" "[J", .fieldLink RX1 9 "FourTintsModel" "cell" "[I", .fieldLink RX1 20 "FourTintsModel" "near" "[I", .methodLink RX1 43 yX1_spread, .static yX1_spread, .code yX1_spread cX1_spread 2 (some .long), .constantLong RX1 37 (-34905131041), .constantLong RX1 39 (-1090785346), .constantLong RX1 41 (68719476735), .methodLink RX1 69 yX1_bits, .static yX1_bits, .code yX1_bits cX1_bits 4 (some .int), .methodLink RX1 73 yX1_told, .instanceMethod yX1_told, .selects RX1 yX1_told yX1_told, .code yX1_told cX1_told 2 (some .int), .fieldLink RX1 29 "FourTintsModel" "thrown" "I"] ++ wsX10)
def wsX1_area_r1 : List Cond := [Cond.fieldLink RX1 16 "FourTintsModel" "cells" "[J", Cond.methodLink RX1 66 yX1_looks, Cond.instanceMethod yX1_looks, Cond.selects RX1 yX1_looks yX1_looks, Cond.initialized RX1, Cond.code yX1_looks cX1_looks 3 none, Cond.fieldLink RX1 47 "FourTintsModel" "there" "I", Cond.fieldLink RX1 9 "FourTintsModel" "cell" "[I", Cond.fieldLink RX1 20 "FourTintsModel" "near" "[I", Cond.methodLink RX1 43 yX1_spread, Cond.static yX1_spread, Cond.code yX1_spread cX1_spread 2 (some .long), Cond.constantLong RX1 37 (-34905131041), Cond.constantLong RX1 39 (-1090785346), Cond.constantLong RX1 41 (68719476735), Cond.methodLink RX1 54 yX1_isCountry, Cond.static yX1_isCountry, Cond.code yX1_isCountry cX1_isCountry 1 (some .boolean), Cond.methodLink RX1 33 yX1_in, Cond.static yX1_in, Cond.code yX1_in cX1_in 3 (some .boolean), Cond.methodLink RX1 58 yX1_goes, Cond.instanceMethod yX1_goes, Cond.selects RX1 yX1_goes yX1_goes]
def wsX1_area_r2 : List Cond := [Cond.code yX1_goes cX1_goes 4 (some .boolean), Cond.fieldLink RX1 29 "FourTintsModel" "thrown" "I", Cond.methodLink RX1 69 yX1_bits, Cond.static yX1_bits, Cond.code yX1_bits cX1_bits 4 (some .int)]
def wsX1_area : List Cond := .code yX1_area cX1_area 2 (some .int) :: ((wsX1_area_r1 ++ wsX1_area_r2) ++ wsX10)
def wsX1_piece : List Cond := .code yX1_piece cX1_piece 2 (some .long) :: ([.methodLink RX1 77 yX1_reach, .static yX1_reach, .initialized RX1, .code yX1_reach cX1_reach 8 (some .long), .methodLink RX1 43 yX1_spread, .static yX1_spread, .code yX1_spread cX1_spread 2 (some .long), .constantLong RX1 37 (-34905131041), .constantLong RX1 39 (-1090785346), .constantLong RX1 41 (68719476735)])
def wsX1_piecesOf : List Cond := .code yX1_piecesOf cX1_piecesOf 5 (some .int) :: ([.fieldLink RX1 16 "FourTintsModel" "cells" "[J", .constantLong RX1 84 (-1), .methodLink RX1 81 yX1_piece, .static yX1_piece, .initialized RX1, .code yX1_piece cX1_piece 2 (some .long), .methodLink RX1 77 yX1_reach, .static yX1_reach, .code yX1_reach cX1_reach 8 (some .long), .methodLink RX1 43 yX1_spread, .static yX1_spread, .code yX1_spread cX1_spread 2 (some .long), .constantLong RX1 37 (-34905131041), .constantLong RX1 39 (-1090785346), .constantLong RX1 41 (68719476735)] ++ wsX10)
def wsX1_pieces_r1 : List Cond := [Cond.methodLink RX1 66 yX1_looks, Cond.instanceMethod yX1_looks, Cond.selects RX1 yX1_looks yX1_looks, Cond.initialized RX1, Cond.code yX1_looks cX1_looks 3 none, Cond.fieldLink RX1 47 "FourTintsModel" "there" "I", Cond.fieldLink RX1 16 "FourTintsModel" "cells" "[J", Cond.fieldLink RX1 9 "FourTintsModel" "cell" "[I", Cond.fieldLink RX1 20 "FourTintsModel" "near" "[I", Cond.methodLink RX1 43 yX1_spread, Cond.static yX1_spread, Cond.code yX1_spread cX1_spread 2 (some .long), Cond.constantLong RX1 37 (-34905131041), Cond.constantLong RX1 39 (-1090785346), Cond.constantLong RX1 41 (68719476735), Cond.methodLink RX1 54 yX1_isCountry, Cond.static yX1_isCountry, Cond.code yX1_isCountry cX1_isCountry 1 (some .boolean), Cond.methodLink RX1 33 yX1_in, Cond.static yX1_in, Cond.code yX1_in cX1_in 3 (some .boolean), Cond.methodLink RX1 58 yX1_goes, Cond.instanceMethod yX1_goes, Cond.selects RX1 yX1_goes yX1_goes]
def wsX1_pieces_r2 : List Cond := [Cond.code yX1_goes cX1_goes 4 (some .boolean), Cond.fieldLink RX1 29 "FourTintsModel" "thrown" "I", Cond.methodLink RX1 86 yX1_piecesOf, Cond.instanceMethod yX1_piecesOf, Cond.selects RX1 yX1_piecesOf yX1_piecesOf, Cond.code yX1_piecesOf cX1_piecesOf 5 (some .int), Cond.constantLong RX1 84 (-1), Cond.methodLink RX1 81 yX1_piece, Cond.static yX1_piece, Cond.code yX1_piece cX1_piece 2 (some .long), Cond.methodLink RX1 77 yX1_reach, Cond.static yX1_reach, Cond.code yX1_reach cX1_reach 8 (some .long)]
def wsX1_pieces : List Cond := .code yX1_pieces cX1_pieces 2 (some .int) :: ((wsX1_pieces_r1 ++ wsX1_pieces_r2) ++ wsX10)
def wsX1_largestPiece_r1 : List Cond := [Cond.fieldLink RX1 16 "FourTintsModel" "cells" "[J", Cond.constantLong RX1 84 (-1), Cond.methodLink RX1 66 yX1_looks, Cond.instanceMethod yX1_looks, Cond.selects RX1 yX1_looks yX1_looks, Cond.initialized RX1, Cond.code yX1_looks cX1_looks 3 none, Cond.fieldLink RX1 47 "FourTintsModel" "there" "I", Cond.fieldLink RX1 9 "FourTintsModel" "cell" "[I", Cond.fieldLink RX1 20 "FourTintsModel" "near" "[I", Cond.methodLink RX1 43 yX1_spread, Cond.static yX1_spread, Cond.code yX1_spread cX1_spread 2 (some .long), Cond.constantLong RX1 37 (-34905131041), Cond.constantLong RX1 39 (-1090785346), Cond.constantLong RX1 41 (68719476735), Cond.methodLink RX1 54 yX1_isCountry, Cond.static yX1_isCountry, Cond.code yX1_isCountry cX1_isCountry 1 (some .boolean), Cond.methodLink RX1 33 yX1_in, Cond.static yX1_in, Cond.code yX1_in cX1_in 3 (some .boolean), Cond.methodLink RX1 58 yX1_goes, Cond.instanceMethod yX1_goes]
def wsX1_largestPiece_r2 : List Cond := [Cond.selects RX1 yX1_goes yX1_goes, Cond.code yX1_goes cX1_goes 4 (some .boolean), Cond.fieldLink RX1 29 "FourTintsModel" "thrown" "I", Cond.methodLink RX1 81 yX1_piece, Cond.static yX1_piece, Cond.code yX1_piece cX1_piece 2 (some .long), Cond.methodLink RX1 77 yX1_reach, Cond.static yX1_reach, Cond.code yX1_reach cX1_reach 8 (some .long), Cond.methodLink RX1 69 yX1_bits, Cond.static yX1_bits, Cond.code yX1_bits cX1_bits 4 (some .int)]
def wsX1_largestPiece : List Cond := .code yX1_largestPiece cX1_largestPiece 6 (some .int) :: ((wsX1_largestPiece_r1 ++ wsX1_largestPiece_r2) ++ wsX10)
def wsX1_scattered_r1 : List Cond := [Cond.fieldLink RX1 29 "FourTintsModel" "thrown" "I", Cond.methodLink RX1 66 yX1_looks, Cond.instanceMethod yX1_looks, Cond.selects RX1 yX1_looks yX1_looks, Cond.initialized RX1, Cond.code yX1_looks cX1_looks 3 none, Cond.fieldLink RX1 47 "FourTintsModel" "there" "I", Cond.fieldLink RX1 16 "FourTintsModel" "cells" "[J", Cond.fieldLink RX1 9 "FourTintsModel" "cell" "[I", Cond.fieldLink RX1 20 "FourTintsModel" "near" "[I", Cond.methodLink RX1 43 yX1_spread, Cond.static yX1_spread, Cond.code yX1_spread cX1_spread 2 (some .long), Cond.constantLong RX1 37 (-34905131041), Cond.constantLong RX1 39 (-1090785346), Cond.constantLong RX1 41 (68719476735), Cond.methodLink RX1 86 yX1_piecesOf, Cond.instanceMethod yX1_piecesOf, Cond.selects RX1 yX1_piecesOf yX1_piecesOf, Cond.code yX1_piecesOf cX1_piecesOf 5 (some .int), Cond.constantLong RX1 84 (-1), Cond.methodLink RX1 81 yX1_piece, Cond.static yX1_piece, Cond.code yX1_piece cX1_piece 2 (some .long)]
def wsX1_scattered_r2 : List Cond := [Cond.methodLink RX1 77 yX1_reach, Cond.static yX1_reach, Cond.code yX1_reach cX1_reach 8 (some .long)]
def wsX1_scattered : List Cond := .code yX1_scattered cX1_scattered 3 (some .int) :: ((wsX1_scattered_r1 ++ wsX1_scattered_r2) ++ wsX10)
def wsX1_neighbours_r1 : List Cond := [Cond.fieldLink RX1 20 "FourTintsModel" "near" "[I", Cond.methodLink RX1 66 yX1_looks, Cond.instanceMethod yX1_looks, Cond.selects RX1 yX1_looks yX1_looks, Cond.initialized RX1, Cond.code yX1_looks cX1_looks 3 none, Cond.fieldLink RX1 47 "FourTintsModel" "there" "I", Cond.fieldLink RX1 16 "FourTintsModel" "cells" "[J", Cond.fieldLink RX1 9 "FourTintsModel" "cell" "[I", Cond.methodLink RX1 43 yX1_spread, Cond.static yX1_spread, Cond.code yX1_spread cX1_spread 2 (some .long), Cond.constantLong RX1 37 (-34905131041), Cond.constantLong RX1 39 (-1090785346), Cond.constantLong RX1 41 (68719476735), Cond.methodLink RX1 54 yX1_isCountry, Cond.static yX1_isCountry, Cond.code yX1_isCountry cX1_isCountry 1 (some .boolean), Cond.methodLink RX1 33 yX1_in, Cond.static yX1_in, Cond.code yX1_in cX1_in 3 (some .boolean), Cond.methodLink RX1 58 yX1_goes, Cond.instanceMethod yX1_goes, Cond.selects RX1 yX1_goes yX1_goes]
def wsX1_neighbours_r2 : List Cond := [Cond.code yX1_goes cX1_goes 4 (some .boolean), Cond.fieldLink RX1 29 "FourTintsModel" "thrown" "I", Cond.methodLink RX1 69 yX1_bits, Cond.static yX1_bits, Cond.code yX1_bits cX1_bits 4 (some .int)]
def wsX1_neighbours : List Cond := .code yX1_neighbours cX1_neighbours 2 (some .int) :: ((wsX1_neighbours_r1 ++ wsX1_neighbours_r2) ++ wsX10)
def wsX1_touches : List Cond := .code yX1_touches cX1_touches 4 (some .int) :: ([.constantLong RX1 37 (-34905131041), .methodLink RX1 69 yX1_bits, .static yX1_bits, .initialized RX1, .code yX1_bits cX1_bits 4 (some .int)])
def wsX1_border_r1 : List Cond := [Cond.fieldLink RX1 16 "FourTintsModel" "cells" "[J", Cond.methodLink RX1 66 yX1_looks, Cond.instanceMethod yX1_looks, Cond.selects RX1 yX1_looks yX1_looks, Cond.initialized RX1, Cond.code yX1_looks cX1_looks 3 none, Cond.fieldLink RX1 47 "FourTintsModel" "there" "I", Cond.fieldLink RX1 9 "FourTintsModel" "cell" "[I", Cond.fieldLink RX1 20 "FourTintsModel" "near" "[I", Cond.methodLink RX1 43 yX1_spread, Cond.static yX1_spread, Cond.code yX1_spread cX1_spread 2 (some .long), Cond.constantLong RX1 37 (-34905131041), Cond.constantLong RX1 39 (-1090785346), Cond.constantLong RX1 41 (68719476735), Cond.methodLink RX1 54 yX1_isCountry, Cond.static yX1_isCountry, Cond.code yX1_isCountry cX1_isCountry 1 (some .boolean), Cond.methodLink RX1 33 yX1_in, Cond.static yX1_in, Cond.code yX1_in cX1_in 3 (some .boolean), Cond.methodLink RX1 58 yX1_goes, Cond.instanceMethod yX1_goes, Cond.selects RX1 yX1_goes yX1_goes]
def wsX1_border_r2 : List Cond := [Cond.code yX1_goes cX1_goes 4 (some .boolean), Cond.fieldLink RX1 29 "FourTintsModel" "thrown" "I", Cond.methodLink RX1 89 yX1_touches, Cond.static yX1_touches, Cond.code yX1_touches cX1_touches 4 (some .int), Cond.methodLink RX1 69 yX1_bits, Cond.static yX1_bits, Cond.code yX1_bits cX1_bits 4 (some .int)]
def wsX1_border : List Cond := .code yX1_border cX1_border 3 (some .int) :: ((wsX1_border_r1 ++ wsX1_border_r2) ++ wsX10)
def wsX1_enclosed_r1 : List Cond := [Cond.constantLong RX1 41 (68719476735), Cond.fieldLink RX1 16 "FourTintsModel" "cells" "[J", Cond.constantLong RX1 84 (-1), Cond.constantLong RX1 93 (68208171135), Cond.methodLink RX1 66 yX1_looks, Cond.instanceMethod yX1_looks, Cond.selects RX1 yX1_looks yX1_looks, Cond.initialized RX1, Cond.code yX1_looks cX1_looks 3 none, Cond.fieldLink RX1 47 "FourTintsModel" "there" "I", Cond.fieldLink RX1 9 "FourTintsModel" "cell" "[I", Cond.fieldLink RX1 20 "FourTintsModel" "near" "[I", Cond.methodLink RX1 43 yX1_spread, Cond.static yX1_spread, Cond.code yX1_spread cX1_spread 2 (some .long), Cond.constantLong RX1 37 (-34905131041), Cond.constantLong RX1 39 (-1090785346), Cond.methodLink RX1 54 yX1_isCountry, Cond.static yX1_isCountry, Cond.code yX1_isCountry cX1_isCountry 1 (some .boolean), Cond.methodLink RX1 33 yX1_in, Cond.static yX1_in, Cond.code yX1_in cX1_in 3 (some .boolean), Cond.methodLink RX1 58 yX1_goes]
def wsX1_enclosed_r2 : List Cond := [Cond.instanceMethod yX1_goes, Cond.selects RX1 yX1_goes yX1_goes, Cond.code yX1_goes cX1_goes 4 (some .boolean), Cond.fieldLink RX1 29 "FourTintsModel" "thrown" "I", Cond.methodLink RX1 77 yX1_reach, Cond.static yX1_reach, Cond.code yX1_reach cX1_reach 8 (some .long), Cond.methodLink RX1 69 yX1_bits, Cond.static yX1_bits, Cond.code yX1_bits cX1_bits 4 (some .int)]
def wsX1_enclosed : List Cond := .code yX1_enclosed cX1_enclosed 4 (some .int) :: ((wsX1_enclosed_r1 ++ wsX1_enclosed_r2) ++ wsX10)
def wsX1_areNear : List Cond := .code yX1_areNear cX1_areNear 6 (some .boolean) :: ([.fieldLink RX1 47 "FourTintsModel" "there" "I", .fieldLink RX1 20 "FourTintsModel" "near" "[I"] ++ wsX10)
def wsX1_allNeighbours : List Cond := .code yX1_allNeighbours cX1_allNeighbours 3 (some .int) :: ([.fieldLink RX1 29 "FourTintsModel" "thrown" "I", .methodLink RX1 66 yX1_looks, .instanceMethod yX1_looks, .selects RX1 yX1_looks yX1_looks, .initialized RX1, .code yX1_looks cX1_looks 3 none, .fieldLink RX1 47 "FourTintsModel" "there" "I", .fieldLink RX1 16 "FourTintsModel" "cells" "[J", .fieldLink RX1 9 "FourTintsModel" "cell" "[I", .fieldLink RX1 20 "FourTintsModel" "near" "[I", .methodLink RX1 43 yX1_spread, .static yX1_spread, .code yX1_spread cX1_spread 2 (some .long), .constantLong RX1 37 (-34905131041), .constantLong RX1 39 (-1090785346), .constantLong RX1 41 (68719476735), .methodLink RX1 69 yX1_bits, .static yX1_bits, .code yX1_bits cX1_bits 4 (some .int), .methodLink RX1 95 yX1_areNear, .instanceMethod yX1_areNear, .selects RX1 yX1_areNear yX1_areNear, .code yX1_areNear cX1_areNear 6 (some .boolean)] ++ wsX10)
def wsX1_tint : List Cond := .code yX1_tint cX1_tint 4 (some .int) :: ([.fieldLink RX1 13 "FourTintsModel" "tint" "[I", .methodLink RX1 54 yX1_isCountry, .static yX1_isCountry, .initialized RX1, .code yX1_isCountry cX1_isCountry 1 (some .boolean), .methodLink RX1 33 yX1_in, .static yX1_in, .code yX1_in cX1_in 3 (some .boolean), .methodLink RX1 58 yX1_goes, .instanceMethod yX1_goes, .selects RX1 yX1_goes yX1_goes, .code yX1_goes cX1_goes 4 (some .boolean), .fieldLink RX1 29 "FourTintsModel" "thrown" "I"] ++ wsX10)
def wsX1_tintOf : List Cond := .code yX1_tintOf cX1_tintOf 2 (some .int) :: ([.fieldLink RX1 13 "FourTintsModel" "tint" "[I", .methodLink RX1 54 yX1_isCountry, .static yX1_isCountry, .initialized RX1, .code yX1_isCountry cX1_isCountry 1 (some .boolean), .methodLink RX1 33 yX1_in, .static yX1_in, .code yX1_in cX1_in 3 (some .boolean), .methodLink RX1 58 yX1_goes, .instanceMethod yX1_goes, .selects RX1 yX1_goes yX1_goes, .code yX1_goes cX1_goes 4 (some .boolean), .fieldLink RX1 29 "FourTintsModel" "thrown" "I"] ++ wsX10)
def wsX1_inConflict : List Cond := .code yX1_inConflict cX1_inConflict 4 (some .int) :: ([.fieldLink RX1 20 "FourTintsModel" "near" "[I", .fieldLink RX1 13 "FourTintsModel" "tint" "[I", .methodLink RX1 66 yX1_looks, .instanceMethod yX1_looks, .selects RX1 yX1_looks yX1_looks, .initialized RX1, .code yX1_looks cX1_looks 3 none, .fieldLink RX1 47 "FourTintsModel" "there" "I", .fieldLink RX1 16 "FourTintsModel" "cells" "[J", .fieldLink RX1 9 "FourTintsModel" "cell" "[I", .methodLink RX1 43 yX1_spread, .static yX1_spread, .code yX1_spread cX1_spread 2 (some .long), .constantLong RX1 37 (-34905131041), .constantLong RX1 39 (-1090785346), .constantLong RX1 41 (68719476735)] ++ wsX10)
def wsX1_conflicts_r1 : List Cond := [Cond.methodLink RX1 99 yX1_inConflict, Cond.instanceMethod yX1_inConflict, Cond.selects RX1 yX1_inConflict yX1_inConflict, Cond.initialized RX1, Cond.code yX1_inConflict cX1_inConflict 4 (some .int), Cond.fieldLink RX1 20 "FourTintsModel" "near" "[I", Cond.fieldLink RX1 13 "FourTintsModel" "tint" "[I", Cond.methodLink RX1 66 yX1_looks, Cond.instanceMethod yX1_looks, Cond.selects RX1 yX1_looks yX1_looks, Cond.code yX1_looks cX1_looks 3 none, Cond.fieldLink RX1 47 "FourTintsModel" "there" "I", Cond.fieldLink RX1 16 "FourTintsModel" "cells" "[J", Cond.fieldLink RX1 9 "FourTintsModel" "cell" "[I", Cond.methodLink RX1 43 yX1_spread, Cond.static yX1_spread, Cond.code yX1_spread cX1_spread 2 (some .long), Cond.constantLong RX1 37 (-34905131041), Cond.constantLong RX1 39 (-1090785346), Cond.constantLong RX1 41 (68719476735), Cond.methodLink RX1 73 yX1_told, Cond.instanceMethod yX1_told, Cond.selects RX1 yX1_told yX1_told, Cond.code yX1_told cX1_told 2 (some .int)]
def wsX1_conflicts_r2 : List Cond := [Cond.fieldLink RX1 29 "FourTintsModel" "thrown" "I"]
def wsX1_conflicts : List Cond := .code yX1_conflicts cX1_conflicts 1 (some .int) :: ((wsX1_conflicts_r1 ++ wsX1_conflicts_r2) ++ wsX10)
def wsX1_isTinted_r1 : List Cond := [Cond.fieldLink RX1 29 "FourTintsModel" "thrown" "I", Cond.fieldLink RX1 13 "FourTintsModel" "tint" "[I", Cond.methodLink RX1 99 yX1_inConflict, Cond.instanceMethod yX1_inConflict, Cond.selects RX1 yX1_inConflict yX1_inConflict, Cond.initialized RX1, Cond.code yX1_inConflict cX1_inConflict 4 (some .int), Cond.fieldLink RX1 20 "FourTintsModel" "near" "[I", Cond.methodLink RX1 66 yX1_looks, Cond.instanceMethod yX1_looks, Cond.selects RX1 yX1_looks yX1_looks, Cond.code yX1_looks cX1_looks 3 none, Cond.fieldLink RX1 47 "FourTintsModel" "there" "I", Cond.fieldLink RX1 16 "FourTintsModel" "cells" "[J", Cond.fieldLink RX1 9 "FourTintsModel" "cell" "[I", Cond.methodLink RX1 43 yX1_spread, Cond.static yX1_spread, Cond.code yX1_spread cX1_spread 2 (some .long), Cond.constantLong RX1 37 (-34905131041), Cond.constantLong RX1 39 (-1090785346), Cond.constantLong RX1 41 (68719476735), Cond.methodLink RX1 103 yX1_isThere, Cond.instanceMethod yX1_isThere, Cond.selects RX1 yX1_isThere yX1_isThere]
def wsX1_isTinted_r2 : List Cond := [Cond.code yX1_isThere cX1_isThere 2 (some .boolean)]
def wsX1_isTinted : List Cond := .code yX1_isTinted cX1_isTinted 3 (some .boolean) :: ((wsX1_isTinted_r1 ++ wsX1_isTinted_r2) ++ wsX10)
def wsX1_least : List Cond := .code yX1_least cX1_least 5 (some .int) :: ([.fieldLink RX1 13 "FourTintsModel" "tint" "[I"] ++ wsX10)
def wsX1_leastFree_r1 : List Cond := [Cond.fieldLink RX1 20 "FourTintsModel" "near" "[I", Cond.methodLink RX1 66 yX1_looks, Cond.instanceMethod yX1_looks, Cond.selects RX1 yX1_looks yX1_looks, Cond.initialized RX1, Cond.code yX1_looks cX1_looks 3 none, Cond.fieldLink RX1 47 "FourTintsModel" "there" "I", Cond.fieldLink RX1 16 "FourTintsModel" "cells" "[J", Cond.fieldLink RX1 9 "FourTintsModel" "cell" "[I", Cond.methodLink RX1 43 yX1_spread, Cond.static yX1_spread, Cond.code yX1_spread cX1_spread 2 (some .long), Cond.constantLong RX1 37 (-34905131041), Cond.constantLong RX1 39 (-1090785346), Cond.constantLong RX1 41 (68719476735), Cond.methodLink RX1 54 yX1_isCountry, Cond.static yX1_isCountry, Cond.code yX1_isCountry cX1_isCountry 1 (some .boolean), Cond.methodLink RX1 33 yX1_in, Cond.static yX1_in, Cond.code yX1_in cX1_in 3 (some .boolean), Cond.methodLink RX1 58 yX1_goes, Cond.instanceMethod yX1_goes, Cond.selects RX1 yX1_goes yX1_goes]
def wsX1_leastFree_r2 : List Cond := [Cond.code yX1_goes cX1_goes 4 (some .boolean), Cond.fieldLink RX1 29 "FourTintsModel" "thrown" "I", Cond.methodLink RX1 106 yX1_least, Cond.instanceMethod yX1_least, Cond.selects RX1 yX1_least yX1_least, Cond.code yX1_least cX1_least 5 (some .int), Cond.fieldLink RX1 13 "FourTintsModel" "tint" "[I"]
def wsX1_leastFree : List Cond := .code yX1_leastFree cX1_leastFree 2 (some .int) :: ((wsX1_leastFree_r1 ++ wsX1_leastFree_r2) ++ wsX10)
def wsX1_isChain_r1 : List Cond := [Cond.fieldLink RX1 13 "FourTintsModel" "tint" "[I", Cond.methodLink RX1 66 yX1_looks, Cond.instanceMethod yX1_looks, Cond.selects RX1 yX1_looks yX1_looks, Cond.initialized RX1, Cond.code yX1_looks cX1_looks 3 none, Cond.fieldLink RX1 47 "FourTintsModel" "there" "I", Cond.fieldLink RX1 16 "FourTintsModel" "cells" "[J", Cond.fieldLink RX1 9 "FourTintsModel" "cell" "[I", Cond.fieldLink RX1 20 "FourTintsModel" "near" "[I", Cond.methodLink RX1 43 yX1_spread, Cond.static yX1_spread, Cond.code yX1_spread cX1_spread 2 (some .long), Cond.constantLong RX1 37 (-34905131041), Cond.constantLong RX1 39 (-1090785346), Cond.constantLong RX1 41 (68719476735), Cond.methodLink RX1 54 yX1_isCountry, Cond.static yX1_isCountry, Cond.code yX1_isCountry cX1_isCountry 1 (some .boolean), Cond.methodLink RX1 33 yX1_in, Cond.static yX1_in, Cond.code yX1_in cX1_in 3 (some .boolean), Cond.methodLink RX1 103 yX1_isThere, Cond.instanceMethod yX1_isThere]
def wsX1_isChain_r2 : List Cond := [Cond.selects RX1 yX1_isThere yX1_isThere, Cond.code yX1_isThere cX1_isThere 2 (some .boolean), Cond.methodLink RX1 58 yX1_goes, Cond.instanceMethod yX1_goes, Cond.selects RX1 yX1_goes yX1_goes, Cond.code yX1_goes cX1_goes 4 (some .boolean), Cond.fieldLink RX1 29 "FourTintsModel" "thrown" "I"]
def wsX1_isChain : List Cond := .code yX1_isChain cX1_isChain 4 (some .boolean) :: ((wsX1_isChain_r1 ++ wsX1_isChain_r2) ++ wsX10)
def wsX1_links : List Cond := .code yX1_links cX1_links 7 (some .int) :: ([.fieldLink RX1 13 "FourTintsModel" "tint" "[I", .fieldLink RX1 20 "FourTintsModel" "near" "[I", .methodLink RX1 103 yX1_isThere, .instanceMethod yX1_isThere, .selects RX1 yX1_isThere yX1_isThere, .initialized RX1, .code yX1_isThere cX1_isThere 2 (some .boolean), .fieldLink RX1 47 "FourTintsModel" "there" "I"] ++ wsX10)
def wsX1_chain_r1 : List Cond := [Cond.methodLink RX1 109 yX1_isChain, Cond.instanceMethod yX1_isChain, Cond.selects RX1 yX1_isChain yX1_isChain, Cond.initialized RX1, Cond.code yX1_isChain cX1_isChain 4 (some .boolean), Cond.fieldLink RX1 13 "FourTintsModel" "tint" "[I", Cond.methodLink RX1 66 yX1_looks, Cond.instanceMethod yX1_looks, Cond.selects RX1 yX1_looks yX1_looks, Cond.code yX1_looks cX1_looks 3 none, Cond.fieldLink RX1 47 "FourTintsModel" "there" "I", Cond.fieldLink RX1 16 "FourTintsModel" "cells" "[J", Cond.fieldLink RX1 9 "FourTintsModel" "cell" "[I", Cond.fieldLink RX1 20 "FourTintsModel" "near" "[I", Cond.methodLink RX1 43 yX1_spread, Cond.static yX1_spread, Cond.code yX1_spread cX1_spread 2 (some .long), Cond.constantLong RX1 37 (-34905131041), Cond.constantLong RX1 39 (-1090785346), Cond.constantLong RX1 41 (68719476735), Cond.methodLink RX1 54 yX1_isCountry, Cond.static yX1_isCountry, Cond.code yX1_isCountry cX1_isCountry 1 (some .boolean), Cond.methodLink RX1 33 yX1_in]
def wsX1_chain_r2 : List Cond := [Cond.static yX1_in, Cond.code yX1_in cX1_in 3 (some .boolean), Cond.methodLink RX1 103 yX1_isThere, Cond.instanceMethod yX1_isThere, Cond.selects RX1 yX1_isThere yX1_isThere, Cond.code yX1_isThere cX1_isThere 2 (some .boolean), Cond.methodLink RX1 58 yX1_goes, Cond.instanceMethod yX1_goes, Cond.selects RX1 yX1_goes yX1_goes, Cond.code yX1_goes cX1_goes 4 (some .boolean), Cond.fieldLink RX1 29 "FourTintsModel" "thrown" "I", Cond.methodLink RX1 112 yX1_links, Cond.instanceMethod yX1_links, Cond.selects RX1 yX1_links yX1_links, Cond.code yX1_links cX1_links 7 (some .int), Cond.methodLink RX1 69 yX1_bits, Cond.static yX1_bits, Cond.code yX1_bits cX1_bits 4 (some .int)]
def wsX1_chain : List Cond := .code yX1_chain cX1_chain 3 (some .int) :: ((wsX1_chain_r1 ++ wsX1_chain_r2) ++ wsX10)
def wsX1_exchange_r1 : List Cond := [Cond.fieldLink RX1 13 "FourTintsModel" "tint" "[I", Cond.methodLink RX1 109 yX1_isChain, Cond.instanceMethod yX1_isChain, Cond.selects RX1 yX1_isChain yX1_isChain, Cond.initialized RX1, Cond.code yX1_isChain cX1_isChain 4 (some .boolean), Cond.methodLink RX1 66 yX1_looks, Cond.instanceMethod yX1_looks, Cond.selects RX1 yX1_looks yX1_looks, Cond.code yX1_looks cX1_looks 3 none, Cond.fieldLink RX1 47 "FourTintsModel" "there" "I", Cond.fieldLink RX1 16 "FourTintsModel" "cells" "[J", Cond.fieldLink RX1 9 "FourTintsModel" "cell" "[I", Cond.fieldLink RX1 20 "FourTintsModel" "near" "[I", Cond.methodLink RX1 43 yX1_spread, Cond.static yX1_spread, Cond.code yX1_spread cX1_spread 2 (some .long), Cond.constantLong RX1 37 (-34905131041), Cond.constantLong RX1 39 (-1090785346), Cond.constantLong RX1 41 (68719476735), Cond.methodLink RX1 54 yX1_isCountry, Cond.static yX1_isCountry, Cond.code yX1_isCountry cX1_isCountry 1 (some .boolean), Cond.methodLink RX1 33 yX1_in]
def wsX1_exchange_r2 : List Cond := [Cond.static yX1_in, Cond.code yX1_in cX1_in 3 (some .boolean), Cond.methodLink RX1 103 yX1_isThere, Cond.instanceMethod yX1_isThere, Cond.selects RX1 yX1_isThere yX1_isThere, Cond.code yX1_isThere cX1_isThere 2 (some .boolean), Cond.methodLink RX1 58 yX1_goes, Cond.instanceMethod yX1_goes, Cond.selects RX1 yX1_goes yX1_goes, Cond.code yX1_goes cX1_goes 4 (some .boolean), Cond.fieldLink RX1 29 "FourTintsModel" "thrown" "I", Cond.methodLink RX1 112 yX1_links, Cond.instanceMethod yX1_links, Cond.selects RX1 yX1_links yX1_links, Cond.code yX1_links cX1_links 7 (some .int), Cond.methodLink RX1 69 yX1_bits, Cond.static yX1_bits, Cond.code yX1_bits cX1_bits 4 (some .int)]
def wsX1_exchange : List Cond := .code yX1_exchange cX1_exchange 6 (some .int) :: ((wsX1_exchange_r1 ++ wsX1_exchange_r2) ++ wsX10)
def wsX1_tintInOrder_r1 : List Cond := [Cond.fieldLink RX1 29 "FourTintsModel" "thrown" "I", Cond.fieldLink RX1 47 "FourTintsModel" "there" "I", Cond.fieldLink RX1 20 "FourTintsModel" "near" "[I", Cond.fieldLink RX1 13 "FourTintsModel" "tint" "[I", Cond.methodLink RX1 66 yX1_looks, Cond.instanceMethod yX1_looks, Cond.selects RX1 yX1_looks yX1_looks, Cond.initialized RX1, Cond.code yX1_looks cX1_looks 3 none, Cond.fieldLink RX1 16 "FourTintsModel" "cells" "[J", Cond.fieldLink RX1 9 "FourTintsModel" "cell" "[I", Cond.methodLink RX1 43 yX1_spread, Cond.static yX1_spread, Cond.code yX1_spread cX1_spread 2 (some .long), Cond.constantLong RX1 37 (-34905131041), Cond.constantLong RX1 39 (-1090785346), Cond.constantLong RX1 41 (68719476735), Cond.methodLink RX1 103 yX1_isThere, Cond.instanceMethod yX1_isThere, Cond.selects RX1 yX1_isThere yX1_isThere, Cond.code yX1_isThere cX1_isThere 2 (some .boolean), Cond.methodLink RX1 69 yX1_bits, Cond.static yX1_bits, Cond.code yX1_bits cX1_bits 4 (some .int)]
def wsX1_tintInOrder_r2 : List Cond := [Cond.methodLink RX1 106 yX1_least, Cond.instanceMethod yX1_least, Cond.selects RX1 yX1_least yX1_least, Cond.code yX1_least cX1_least 5 (some .int)]
def wsX1_tintInOrder : List Cond := .code yX1_tintInOrder cX1_tintInOrder 7 (some .int) :: ((wsX1_tintInOrder_r1 ++ wsX1_tintInOrder_r2) ++ wsX10)
def wsX1_begins : List Cond := .code yX1_begins cX1_begins 2 none :: ([.fieldLink RX1 23 "FourTintsModel" "ways" "[J", .methodLink RX1 66 yX1_looks, .instanceMethod yX1_looks, .selects RX1 yX1_looks yX1_looks, .initialized RX1, .code yX1_looks cX1_looks 3 none, .fieldLink RX1 47 "FourTintsModel" "there" "I", .fieldLink RX1 16 "FourTintsModel" "cells" "[J", .fieldLink RX1 9 "FourTintsModel" "cell" "[I", .fieldLink RX1 20 "FourTintsModel" "near" "[I", .methodLink RX1 43 yX1_spread, .static yX1_spread, .code yX1_spread cX1_spread 2 (some .long), .constantLong RX1 37 (-34905131041), .constantLong RX1 39 (-1090785346), .constantLong RX1 41 (68719476735)] ++ wsX10)
def wsX1_adds : List Cond := .code yX1_adds cX1_adds 4 none :: ([.fieldLink RX1 26 "FourTintsModel" "more" "[J", .fieldLink RX1 47 "FourTintsModel" "there" "I", .fieldLink RX1 23 "FourTintsModel" "ways" "[J", .methodLink RX1 95 yX1_areNear, .instanceMethod yX1_areNear, .selects RX1 yX1_areNear yX1_areNear, .initialized RX1, .code yX1_areNear cX1_areNear 6 (some .boolean), .fieldLink RX1 20 "FourTintsModel" "near" "[I"] ++ wsX10)
def wsX1_fewest_r1 : List Cond := [Cond.fieldLink RX1 23 "FourTintsModel" "ways" "[J", Cond.fieldLink RX1 47 "FourTintsModel" "there" "I", Cond.methodLink RX1 115 yX1_begins, Cond.instanceMethod yX1_begins, Cond.selects RX1 yX1_begins yX1_begins, Cond.initialized RX1, Cond.code yX1_begins cX1_begins 2 none, Cond.methodLink RX1 66 yX1_looks, Cond.instanceMethod yX1_looks, Cond.selects RX1 yX1_looks yX1_looks, Cond.code yX1_looks cX1_looks 3 none, Cond.fieldLink RX1 16 "FourTintsModel" "cells" "[J", Cond.fieldLink RX1 9 "FourTintsModel" "cell" "[I", Cond.fieldLink RX1 20 "FourTintsModel" "near" "[I", Cond.methodLink RX1 43 yX1_spread, Cond.static yX1_spread, Cond.code yX1_spread cX1_spread 2 (some .long), Cond.constantLong RX1 37 (-34905131041), Cond.constantLong RX1 39 (-1090785346), Cond.constantLong RX1 41 (68719476735), Cond.methodLink RX1 118 yX1_adds, Cond.instanceMethod yX1_adds, Cond.selects RX1 yX1_adds yX1_adds, Cond.code yX1_adds cX1_adds 4 none]
def wsX1_fewest_r2 : List Cond := [Cond.fieldLink RX1 26 "FourTintsModel" "more" "[J", Cond.methodLink RX1 95 yX1_areNear, Cond.instanceMethod yX1_areNear, Cond.selects RX1 yX1_areNear yX1_areNear, Cond.code yX1_areNear cX1_areNear 6 (some .boolean)]
def wsX1_fewest : List Cond := .code yX1_fewest cX1_fewest 2 (some .int) :: ((wsX1_fewest_r1 ++ wsX1_fewest_r2) ++ wsX10)
def wsX1_fewestTints_r1 : List Cond := [Cond.methodLink RX1 121 yX1_fewest, Cond.instanceMethod yX1_fewest, Cond.selects RX1 yX1_fewest yX1_fewest, Cond.initialized RX1, Cond.code yX1_fewest cX1_fewest 2 (some .int), Cond.fieldLink RX1 23 "FourTintsModel" "ways" "[J", Cond.fieldLink RX1 47 "FourTintsModel" "there" "I", Cond.methodLink RX1 115 yX1_begins, Cond.instanceMethod yX1_begins, Cond.selects RX1 yX1_begins yX1_begins, Cond.code yX1_begins cX1_begins 2 none, Cond.methodLink RX1 66 yX1_looks, Cond.instanceMethod yX1_looks, Cond.selects RX1 yX1_looks yX1_looks, Cond.code yX1_looks cX1_looks 3 none, Cond.fieldLink RX1 16 "FourTintsModel" "cells" "[J", Cond.fieldLink RX1 9 "FourTintsModel" "cell" "[I", Cond.fieldLink RX1 20 "FourTintsModel" "near" "[I", Cond.methodLink RX1 43 yX1_spread, Cond.static yX1_spread, Cond.code yX1_spread cX1_spread 2 (some .long), Cond.constantLong RX1 37 (-34905131041), Cond.constantLong RX1 39 (-1090785346), Cond.constantLong RX1 41 (68719476735)]
def wsX1_fewestTints_r2 : List Cond := [Cond.methodLink RX1 118 yX1_adds, Cond.instanceMethod yX1_adds, Cond.selects RX1 yX1_adds yX1_adds, Cond.code yX1_adds cX1_adds 4 none, Cond.fieldLink RX1 26 "FourTintsModel" "more" "[J", Cond.methodLink RX1 95 yX1_areNear, Cond.instanceMethod yX1_areNear, Cond.selects RX1 yX1_areNear yX1_areNear, Cond.code yX1_areNear cX1_areNear 6 (some .boolean), Cond.methodLink RX1 73 yX1_told, Cond.instanceMethod yX1_told, Cond.selects RX1 yX1_told yX1_told, Cond.code yX1_told cX1_told 2 (some .int), Cond.fieldLink RX1 29 "FourTintsModel" "thrown" "I"]
def wsX1_fewestTints : List Cond := .code yX1_fewestTints cX1_fewestTints 1 (some .int) :: ((wsX1_fewestTints_r1 ++ wsX1_fewestTints_r2) ++ wsX10)
def wsX1_isApart : List Cond := .code yX1_isApart cX1_isApart 4 (some .boolean) :: ([.fieldLink RX1 20 "FourTintsModel" "near" "[I", .fieldLink RX1 13 "FourTintsModel" "tint" "[I"] ++ wsX10)
def wsX1_next : List Cond := .code yX1_next cX1_next 4 (some .int) :: ([.methodLink RX1 33 yX1_in, .static yX1_in, .initialized RX1, .code yX1_in cX1_in 3 (some .boolean), .methodLink RX1 103 yX1_isThere, .instanceMethod yX1_isThere, .selects RX1 yX1_isThere yX1_isThere, .code yX1_isThere cX1_isThere 2 (some .boolean), .fieldLink RX1 47 "FourTintsModel" "there" "I"] ++ wsX10)
def wsX1_tintWithFewest_r1 : List Cond := [Cond.fieldLink RX1 29 "FourTintsModel" "thrown" "I", Cond.fieldLink RX1 13 "FourTintsModel" "tint" "[I", Cond.methodLink RX1 121 yX1_fewest, Cond.instanceMethod yX1_fewest, Cond.selects RX1 yX1_fewest yX1_fewest, Cond.initialized RX1, Cond.code yX1_fewest cX1_fewest 2 (some .int), Cond.fieldLink RX1 23 "FourTintsModel" "ways" "[J", Cond.fieldLink RX1 47 "FourTintsModel" "there" "I", Cond.methodLink RX1 115 yX1_begins, Cond.instanceMethod yX1_begins, Cond.selects RX1 yX1_begins yX1_begins, Cond.code yX1_begins cX1_begins 2 none, Cond.methodLink RX1 66 yX1_looks, Cond.instanceMethod yX1_looks, Cond.selects RX1 yX1_looks yX1_looks, Cond.code yX1_looks cX1_looks 3 none, Cond.fieldLink RX1 16 "FourTintsModel" "cells" "[J", Cond.fieldLink RX1 9 "FourTintsModel" "cell" "[I", Cond.fieldLink RX1 20 "FourTintsModel" "near" "[I", Cond.methodLink RX1 43 yX1_spread, Cond.static yX1_spread, Cond.code yX1_spread cX1_spread 2 (some .long), Cond.constantLong RX1 37 (-34905131041)]
def wsX1_tintWithFewest_r2 : List Cond := [Cond.constantLong RX1 39 (-1090785346), Cond.constantLong RX1 41 (68719476735), Cond.methodLink RX1 118 yX1_adds, Cond.instanceMethod yX1_adds, Cond.selects RX1 yX1_adds yX1_adds, Cond.code yX1_adds cX1_adds 4 none, Cond.fieldLink RX1 26 "FourTintsModel" "more" "[J", Cond.methodLink RX1 95 yX1_areNear, Cond.instanceMethod yX1_areNear, Cond.selects RX1 yX1_areNear yX1_areNear, Cond.code yX1_areNear cX1_areNear 6 (some .boolean), Cond.methodLink RX1 124 yX1_next, Cond.instanceMethod yX1_next, Cond.selects RX1 yX1_next yX1_next, Cond.code yX1_next cX1_next 4 (some .int), Cond.methodLink RX1 33 yX1_in, Cond.static yX1_in, Cond.code yX1_in cX1_in 3 (some .boolean), Cond.methodLink RX1 103 yX1_isThere, Cond.instanceMethod yX1_isThere, Cond.selects RX1 yX1_isThere yX1_isThere, Cond.code yX1_isThere cX1_isThere 2 (some .boolean), Cond.methodLink RX1 127 yX1_isApart, Cond.instanceMethod yX1_isApart]
def wsX1_tintWithFewest_r3 : List Cond := [Cond.selects RX1 yX1_isApart yX1_isApart, Cond.code yX1_isApart cX1_isApart 4 (some .boolean)]
def wsX1_tintWithFewest : List Cond := .code yX1_tintWithFewest cX1_tintWithFewest 4 (some .int) :: ((wsX1_tintWithFewest_r1 ++ (wsX1_tintWithFewest_r2 ++ wsX1_tintWithFewest_r3)) ++ wsX10)
def wsX1_count_r1 : List Cond := [Cond.fieldLink RX1 23 "FourTintsModel" "ways" "[J", Cond.fieldLink RX1 47 "FourTintsModel" "there" "I", Cond.methodLink RX1 33 yX1_in, Cond.static yX1_in, Cond.initialized RX1, Cond.code yX1_in cX1_in 3 (some .boolean), Cond.methodLink RX1 58 yX1_goes, Cond.instanceMethod yX1_goes, Cond.selects RX1 yX1_goes yX1_goes, Cond.code yX1_goes cX1_goes 4 (some .boolean), Cond.fieldLink RX1 29 "FourTintsModel" "thrown" "I", Cond.methodLink RX1 115 yX1_begins, Cond.instanceMethod yX1_begins, Cond.selects RX1 yX1_begins yX1_begins, Cond.code yX1_begins cX1_begins 2 none, Cond.methodLink RX1 66 yX1_looks, Cond.instanceMethod yX1_looks, Cond.selects RX1 yX1_looks yX1_looks, Cond.code yX1_looks cX1_looks 3 none, Cond.fieldLink RX1 16 "FourTintsModel" "cells" "[J", Cond.fieldLink RX1 9 "FourTintsModel" "cell" "[I", Cond.fieldLink RX1 20 "FourTintsModel" "near" "[I", Cond.methodLink RX1 43 yX1_spread, Cond.static yX1_spread]
def wsX1_count_r2 : List Cond := [Cond.code yX1_spread cX1_spread 2 (some .long), Cond.constantLong RX1 37 (-34905131041), Cond.constantLong RX1 39 (-1090785346), Cond.constantLong RX1 41 (68719476735), Cond.methodLink RX1 118 yX1_adds, Cond.instanceMethod yX1_adds, Cond.selects RX1 yX1_adds yX1_adds, Cond.code yX1_adds cX1_adds 4 none, Cond.fieldLink RX1 26 "FourTintsModel" "more" "[J", Cond.methodLink RX1 95 yX1_areNear, Cond.instanceMethod yX1_areNear, Cond.selects RX1 yX1_areNear yX1_areNear, Cond.code yX1_areNear cX1_areNear 6 (some .boolean)]
def wsX1_count : List Cond := .code yX1_count cX1_count 3 (some .long) :: ((wsX1_count_r1 ++ wsX1_count_r2) ++ wsX10)
def wsX1_tintings_r1 : List Cond := [Cond.methodLink RX1 130 yX1_count, Cond.instanceMethod yX1_count, Cond.selects RX1 yX1_count yX1_count, Cond.initialized RX1, Cond.code yX1_count cX1_count 3 (some .long), Cond.fieldLink RX1 23 "FourTintsModel" "ways" "[J", Cond.fieldLink RX1 47 "FourTintsModel" "there" "I", Cond.methodLink RX1 33 yX1_in, Cond.static yX1_in, Cond.code yX1_in cX1_in 3 (some .boolean), Cond.methodLink RX1 58 yX1_goes, Cond.instanceMethod yX1_goes, Cond.selects RX1 yX1_goes yX1_goes, Cond.code yX1_goes cX1_goes 4 (some .boolean), Cond.fieldLink RX1 29 "FourTintsModel" "thrown" "I", Cond.methodLink RX1 115 yX1_begins, Cond.instanceMethod yX1_begins, Cond.selects RX1 yX1_begins yX1_begins, Cond.code yX1_begins cX1_begins 2 none, Cond.methodLink RX1 66 yX1_looks, Cond.instanceMethod yX1_looks, Cond.selects RX1 yX1_looks yX1_looks, Cond.code yX1_looks cX1_looks 3 none, Cond.fieldLink RX1 16 "FourTintsModel" "cells" "[J"]
def wsX1_tintings_r2 : List Cond := [Cond.fieldLink RX1 9 "FourTintsModel" "cell" "[I", Cond.fieldLink RX1 20 "FourTintsModel" "near" "[I", Cond.methodLink RX1 43 yX1_spread, Cond.static yX1_spread, Cond.code yX1_spread cX1_spread 2 (some .long), Cond.constantLong RX1 37 (-34905131041), Cond.constantLong RX1 39 (-1090785346), Cond.constantLong RX1 41 (68719476735), Cond.methodLink RX1 118 yX1_adds, Cond.instanceMethod yX1_adds, Cond.selects RX1 yX1_adds yX1_adds, Cond.code yX1_adds cX1_adds 4 none, Cond.fieldLink RX1 26 "FourTintsModel" "more" "[J", Cond.methodLink RX1 95 yX1_areNear, Cond.instanceMethod yX1_areNear, Cond.selects RX1 yX1_areNear yX1_areNear, Cond.code yX1_areNear cX1_areNear 6 (some .boolean)]
def wsX1_tintings : List Cond := .code yX1_tintings cX1_tintings 2 (some .long) :: ((wsX1_tintings_r1 ++ wsX1_tintings_r2) ++ wsX10)
def wsX1_tintingsByPairs_r1 : List Cond := [Cond.methodLink RX1 130 yX1_count, Cond.instanceMethod yX1_count, Cond.selects RX1 yX1_count yX1_count, Cond.initialized RX1, Cond.code yX1_count cX1_count 3 (some .long), Cond.fieldLink RX1 23 "FourTintsModel" "ways" "[J", Cond.fieldLink RX1 47 "FourTintsModel" "there" "I", Cond.methodLink RX1 33 yX1_in, Cond.static yX1_in, Cond.code yX1_in cX1_in 3 (some .boolean), Cond.methodLink RX1 58 yX1_goes, Cond.instanceMethod yX1_goes, Cond.selects RX1 yX1_goes yX1_goes, Cond.code yX1_goes cX1_goes 4 (some .boolean), Cond.fieldLink RX1 29 "FourTintsModel" "thrown" "I", Cond.methodLink RX1 115 yX1_begins, Cond.instanceMethod yX1_begins, Cond.selects RX1 yX1_begins yX1_begins, Cond.code yX1_begins cX1_begins 2 none, Cond.methodLink RX1 66 yX1_looks, Cond.instanceMethod yX1_looks, Cond.selects RX1 yX1_looks yX1_looks, Cond.code yX1_looks cX1_looks 3 none, Cond.fieldLink RX1 16 "FourTintsModel" "cells" "[J"]
def wsX1_tintingsByPairs_r2 : List Cond := [Cond.fieldLink RX1 9 "FourTintsModel" "cell" "[I", Cond.fieldLink RX1 20 "FourTintsModel" "near" "[I", Cond.methodLink RX1 43 yX1_spread, Cond.static yX1_spread, Cond.code yX1_spread cX1_spread 2 (some .long), Cond.constantLong RX1 37 (-34905131041), Cond.constantLong RX1 39 (-1090785346), Cond.constantLong RX1 41 (68719476735), Cond.methodLink RX1 118 yX1_adds, Cond.instanceMethod yX1_adds, Cond.selects RX1 yX1_adds yX1_adds, Cond.code yX1_adds cX1_adds 4 none, Cond.fieldLink RX1 26 "FourTintsModel" "more" "[J", Cond.methodLink RX1 95 yX1_areNear, Cond.instanceMethod yX1_areNear, Cond.selects RX1 yX1_areNear yX1_areNear, Cond.code yX1_areNear cX1_areNear 6 (some .boolean)]
def wsX1_tintingsByPairs : List Cond := .code yX1_tintingsByPairs cX1_tintingsByPairs 2 (some .long) :: ((wsX1_tintingsByPairs_r1 ++ wsX1_tintingsByPairs_r2) ++ wsX10)
def wsJ9_max_7cf53 : List Cond := .code yJ9_max_7cf53 cJ9_max_7cf53 2 (some .int) :: ([])
def wsL_paint_r1 : List Cond := [Cond.classLink RL 13 "java/lang/IndexOutOfBoundsException", Cond.classLink RL 15 "java/lang/IllegalArgumentException", Cond.methodLink RL 7 yX0_paint, Cond.instanceMethod yX0_paint, Cond.selects RX0 yX0_paint yX0_paint, Cond.initialized RX0, Cond.code yX0_paint cX0_paint 7 (some .int), Cond.methodLink RX0 39 yX0_checkCell, Cond.static yX0_checkCell, Cond.code yX0_checkCell cX0_checkCell 2 none, Cond.classLink RX0 178 "java/lang/IndexOutOfBoundsException", Cond.initialized "java/lang/IndexOutOfBoundsException", Cond.methodLink RX0 43 yX0_checkPaint, Cond.static yX0_checkPaint, Cond.code yX0_checkPaint cX0_checkPaint 1 none, Cond.classLink RX0 59 "java/lang/IllegalArgumentException", Cond.initialized "java/lang/IllegalArgumentException", Cond.methodLink RX0 47 yX0_block, Cond.static yX0_block, Cond.code yX0_block cX0_block 8 (some .long), Cond.methodLink RX0 51 yX0_ownerOf, Cond.instanceMethod yX0_ownerOf, Cond.selects RX0 yX0_ownerOf yX0_ownerOf, Cond.code yX0_ownerOf cX0_ownerOf 4 (some .int)]
def wsL_paint_r2 : List Cond := [Cond.fieldLink RX0 9 "FourTints" "land" "[J", Cond.methodLink RX0 55 yX0_cover, Cond.instanceMethod yX0_cover, Cond.selects RX0 yX0_cover yX0_cover, Cond.code yX0_cover cX0_cover 5 none, Cond.constantLong RX0 70 (-1), Cond.methodLink RX0 203 yX0_findNeighbours, Cond.instanceMethod yX0_findNeighbours, Cond.selects RX0 yX0_findNeighbours yX0_findNeighbours, Cond.code yX0_findNeighbours cX0_findNeighbours 2 none, Cond.fieldLink RX0 13 "FourTints" "there" "I", Cond.fieldLink RX0 17 "FourTints" "near" "[I", Cond.methodLink RX0 200 yX0_spread, Cond.static yX0_spread, Cond.code yX0_spread cX0_spread 2 (some .long), Cond.methodLink RX0 98 yX0_above, Cond.static yX0_above, Cond.code yX0_above cX0_above 2 (some .long), Cond.methodLink RX0 101 yX0_below, Cond.static yX0_below, Cond.code yX0_below cX0_below 2 (some .long), Cond.constantLong RX0 110 (68719476735), Cond.methodLink RX0 104 yX0_leftOf, Cond.static yX0_leftOf]
def wsL_paint_r3 : List Cond := [Cond.code yX0_leftOf cX0_leftOf 2 (some .long), Cond.constantLong RX0 196 (-1090785346), Cond.methodLink RX0 107 yX0_rightOf, Cond.static yX0_rightOf, Cond.code yX0_rightOf cX0_rightOf 2 (some .long), Cond.constantLong RX0 198 (-34905131041), Cond.methodLink RX0 206 yX0_thoseIn, Cond.instanceMethod yX0_thoseIn, Cond.selects RX0 yX0_thoseIn yX0_thoseIn, Cond.code yX0_thoseIn cX0_thoseIn 5 (some .int)]
def wsL_paint : List Cond := .codeWith yL_paint cL_paint 6 (some .int) [(0, 12, 15, 13), (0, 12, 19, 15)] :: ((wsL_paint_r1 ++ (wsL_paint_r2 ++ wsL_paint_r3)) ++ wsX00 ++ (vx_atS RX0 182 "java/lang/IndexOutOfBoundsException" ["java/lang/RuntimeException", "java/lang/Exception"]).filter goodWord ++ (vx_atS RX0 63 "java/lang/IllegalArgumentException" ["java/lang/RuntimeException", "java/lang/Exception"]).filter goodWord)
def wsL_paintBlock_r1 : List Cond := [Cond.classLink RL 13 "java/lang/IndexOutOfBoundsException", Cond.classLink RL 15 "java/lang/IllegalArgumentException", Cond.methodLink RL 17 yX0_paintBlock, Cond.instanceMethod yX0_paintBlock, Cond.selects RX0 yX0_paintBlock yX0_paintBlock, Cond.initialized RX0, Cond.code yX0_paintBlock cX0_paintBlock 9 (some .int), Cond.classLink RX0 59 "java/lang/IllegalArgumentException", Cond.initialized "java/lang/IllegalArgumentException", Cond.constantLong RX0 70 (-1), Cond.methodLink RX0 39 yX0_checkCell, Cond.static yX0_checkCell, Cond.code yX0_checkCell cX0_checkCell 2 none, Cond.classLink RX0 178 "java/lang/IndexOutOfBoundsException", Cond.initialized "java/lang/IndexOutOfBoundsException", Cond.methodLink RX0 43 yX0_checkPaint, Cond.static yX0_checkPaint, Cond.code yX0_checkPaint cX0_checkPaint 1 none, Cond.methodLink RX0 47 yX0_block, Cond.static yX0_block, Cond.code yX0_block cX0_block 8 (some .long), Cond.methodLink RX0 66 yX0_cellsOf, Cond.instanceMethod yX0_cellsOf, Cond.selects RX0 yX0_cellsOf yX0_cellsOf]
def wsL_paintBlock_r2 : List Cond := [Cond.code yX0_cellsOf cX0_cellsOf 5 (some .long), Cond.fieldLink RX0 9 "FourTints" "land" "[J", Cond.constantLong RX0 110 (68719476735), Cond.methodLink RX0 72 yJ13_bitCount_95d88, Cond.static yJ13_bitCount_95d88, Cond.initialized RJ13, Cond.code yJ13_bitCount_95d88 cJ13_bitCount_95d88 2 (some .int), Cond.constantLong RJ13 314 (6148914691236517205), Cond.constantLong RJ13 316 (3689348814741910323), Cond.constantLong RJ13 318 (1085102592571150095), Cond.methodLink RX0 55 yX0_cover, Cond.instanceMethod yX0_cover, Cond.selects RX0 yX0_cover yX0_cover, Cond.code yX0_cover cX0_cover 5 none, Cond.methodLink RX0 203 yX0_findNeighbours, Cond.instanceMethod yX0_findNeighbours, Cond.selects RX0 yX0_findNeighbours yX0_findNeighbours, Cond.code yX0_findNeighbours cX0_findNeighbours 2 none, Cond.fieldLink RX0 13 "FourTints" "there" "I", Cond.fieldLink RX0 17 "FourTints" "near" "[I", Cond.methodLink RX0 200 yX0_spread, Cond.static yX0_spread, Cond.code yX0_spread cX0_spread 2 (some .long), Cond.methodLink RX0 98 yX0_above]
def wsL_paintBlock_r3 : List Cond := [Cond.static yX0_above, Cond.code yX0_above cX0_above 2 (some .long), Cond.methodLink RX0 101 yX0_below, Cond.static yX0_below, Cond.code yX0_below cX0_below 2 (some .long), Cond.methodLink RX0 104 yX0_leftOf, Cond.static yX0_leftOf, Cond.code yX0_leftOf cX0_leftOf 2 (some .long), Cond.constantLong RX0 196 (-1090785346), Cond.methodLink RX0 107 yX0_rightOf, Cond.static yX0_rightOf, Cond.code yX0_rightOf cX0_rightOf 2 (some .long), Cond.constantLong RX0 198 (-34905131041), Cond.methodLink RX0 206 yX0_thoseIn, Cond.instanceMethod yX0_thoseIn, Cond.selects RX0 yX0_thoseIn yX0_thoseIn, Cond.code yX0_thoseIn cX0_thoseIn 5 (some .int)]
def wsL_paintBlock : List Cond := .codeWith yL_paintBlock cL_paintBlock 8 (some .int) [(0, 16, 19, 13), (0, 16, 23, 15)] :: ((wsL_paintBlock_r1 ++ (wsL_paintBlock_r2 ++ wsL_paintBlock_r3)) ++ wsX00 ++ (vx_atS RX0 63 "java/lang/IllegalArgumentException" ["java/lang/RuntimeException", "java/lang/Exception"]).filter goodWord ++ (vx_atS RX0 182 "java/lang/IndexOutOfBoundsException" ["java/lang/RuntimeException", "java/lang/Exception"]).filter goodWord)
def wsL_countryAt : List Cond := .codeWith yL_countryAt cL_countryAt 5 (some .int) [(0, 10, 13, 13)] :: ([.classLink RL 13 "java/lang/IndexOutOfBoundsException", .methodLink RL 21 yX0_countryAt, .instanceMethod yX0_countryAt, .selects RX0 yX0_countryAt yX0_countryAt, .initialized RX0, .code yX0_countryAt cX0_countryAt 3 (some .int), .methodLink RX0 39 yX0_checkCell, .static yX0_checkCell, .code yX0_checkCell cX0_checkCell 2 none, .classLink RX0 178 "java/lang/IndexOutOfBoundsException", .initialized "java/lang/IndexOutOfBoundsException", .methodLink RX0 47 yX0_block, .static yX0_block, .code yX0_block cX0_block 8 (some .long), .methodLink RX0 51 yX0_ownerOf, .instanceMethod yX0_ownerOf, .selects RX0 yX0_ownerOf yX0_ownerOf, .code yX0_ownerOf cX0_ownerOf 4 (some .int), .fieldLink RX0 9 "FourTints" "land" "[J"] ++ wsX00 ++ (vx_atS RX0 182 "java/lang/IndexOutOfBoundsException" ["java/lang/RuntimeException", "java/lang/Exception"]).filter goodWord)
def wsL_area : List Cond := .codeWith yL_area cL_area 4 (some .int) [(0, 9, 12, 13)] :: ([.classLink RL 13 "java/lang/IndexOutOfBoundsException", .methodLink RL 25 yX0_area, .instanceMethod yX0_area, .selects RX0 yX0_area yX0_area, .initialized RX0, .code yX0_area cX0_area 2 (some .int), .fieldLink RX0 9 "FourTints" "land" "[J", .methodLink RX0 82 yX0_checkCountry, .static yX0_checkCountry, .code yX0_checkCountry cX0_checkCountry 1 none, .classLink RX0 178 "java/lang/IndexOutOfBoundsException", .initialized "java/lang/IndexOutOfBoundsException", .methodLink RX0 72 yJ13_bitCount_95d88, .static yJ13_bitCount_95d88, .initialized RJ13, .code yJ13_bitCount_95d88 cJ13_bitCount_95d88 2 (some .int), .constantLong RJ13 314 (6148914691236517205), .constantLong RJ13 316 (3689348814741910323), .constantLong RJ13 318 (1085102592571150095)] ++ wsX00 ++ (vx_atS RX0 182 "java/lang/IndexOutOfBoundsException" ["java/lang/RuntimeException", "java/lang/Exception"]).filter goodWord)
def wsL_pieces_r1 : List Cond := [Cond.classLink RL 13 "java/lang/IndexOutOfBoundsException", Cond.methodLink RL 29 yX0_pieces, Cond.instanceMethod yX0_pieces, Cond.selects RX0 yX0_pieces yX0_pieces, Cond.initialized RX0, Cond.code yX0_pieces cX0_pieces 2 (some .int), Cond.fieldLink RX0 9 "FourTints" "land" "[J", Cond.methodLink RX0 82 yX0_checkCountry, Cond.static yX0_checkCountry, Cond.code yX0_checkCountry cX0_checkCountry 1 none, Cond.classLink RX0 178 "java/lang/IndexOutOfBoundsException", Cond.initialized "java/lang/IndexOutOfBoundsException", Cond.methodLink RX0 85 yX0_countPieces, Cond.static yX0_countPieces, Cond.code yX0_countPieces cX0_countPieces 5 (some .int), Cond.constantLong RX0 70 (-1), Cond.methodLink RX0 88 yX0_pieceIn, Cond.static yX0_pieceIn, Cond.code yX0_pieceIn cX0_pieceIn 2 (some .long), Cond.methodLink RX0 114 yX0_reach, Cond.static yX0_reach, Cond.code yX0_reach cX0_reach 9 (some .long), Cond.methodLink RX0 200 yX0_spread, Cond.static yX0_spread]
def wsL_pieces_r2 : List Cond := [Cond.code yX0_spread cX0_spread 2 (some .long), Cond.methodLink RX0 98 yX0_above, Cond.static yX0_above, Cond.code yX0_above cX0_above 2 (some .long), Cond.methodLink RX0 101 yX0_below, Cond.static yX0_below, Cond.code yX0_below cX0_below 2 (some .long), Cond.constantLong RX0 110 (68719476735), Cond.methodLink RX0 104 yX0_leftOf, Cond.static yX0_leftOf, Cond.code yX0_leftOf cX0_leftOf 2 (some .long), Cond.constantLong RX0 196 (-1090785346), Cond.methodLink RX0 107 yX0_rightOf, Cond.static yX0_rightOf, Cond.code yX0_rightOf cX0_rightOf 2 (some .long), Cond.constantLong RX0 198 (-34905131041)]
def wsL_pieces : List Cond := .codeWith yL_pieces cL_pieces 4 (some .int) [(0, 9, 12, 13)] :: ((wsL_pieces_r1 ++ wsL_pieces_r2) ++ wsX00 ++ (vx_atS RX0 182 "java/lang/IndexOutOfBoundsException" ["java/lang/RuntimeException", "java/lang/Exception"]).filter goodWord)
def wsL_largestPiece_r1 : List Cond := [Cond.classLink RL 13 "java/lang/IndexOutOfBoundsException", Cond.methodLink RL 32 yX0_largestPiece, Cond.instanceMethod yX0_largestPiece, Cond.selects RX0 yX0_largestPiece yX0_largestPiece, Cond.initialized RX0, Cond.code yX0_largestPiece cX0_largestPiece 8 (some .int), Cond.fieldLink RX0 9 "FourTints" "land" "[J", Cond.methodLink RX0 92 Lib.Math.max.name, Cond.static Lib.Math.max.name, Cond.initialized "java/lang/Math", Cond.code Lib.Math.max.name Lib.Math.max.code 2 (some .int), Cond.constantLong RX0 70 (-1), Cond.methodLink RX0 82 yX0_checkCountry, Cond.static yX0_checkCountry, Cond.code yX0_checkCountry cX0_checkCountry 1 none, Cond.classLink RX0 178 "java/lang/IndexOutOfBoundsException", Cond.initialized "java/lang/IndexOutOfBoundsException", Cond.methodLink RX0 88 yX0_pieceIn, Cond.static yX0_pieceIn, Cond.code yX0_pieceIn cX0_pieceIn 2 (some .long), Cond.methodLink RX0 114 yX0_reach, Cond.static yX0_reach, Cond.code yX0_reach cX0_reach 9 (some .long), Cond.methodLink RX0 200 yX0_spread]
def wsL_largestPiece_r2 : List Cond := [Cond.static yX0_spread, Cond.code yX0_spread cX0_spread 2 (some .long), Cond.methodLink RX0 98 yX0_above, Cond.static yX0_above, Cond.code yX0_above cX0_above 2 (some .long), Cond.methodLink RX0 101 yX0_below, Cond.static yX0_below, Cond.code yX0_below cX0_below 2 (some .long), Cond.constantLong RX0 110 (68719476735), Cond.methodLink RX0 104 yX0_leftOf, Cond.static yX0_leftOf, Cond.code yX0_leftOf cX0_leftOf 2 (some .long), Cond.constantLong RX0 196 (-1090785346), Cond.methodLink RX0 107 yX0_rightOf, Cond.static yX0_rightOf, Cond.code yX0_rightOf cX0_rightOf 2 (some .long), Cond.constantLong RX0 198 (-34905131041), Cond.methodLink RX0 72 yJ13_bitCount_95d88, Cond.static yJ13_bitCount_95d88, Cond.initialized RJ13, Cond.code yJ13_bitCount_95d88 cJ13_bitCount_95d88 2 (some .int), Cond.constantLong RJ13 314 (6148914691236517205), Cond.constantLong RJ13 316 (3689348814741910323), Cond.constantLong RJ13 318 (1085102592571150095)]
def wsL_largestPiece : List Cond := .codeWith yL_largestPiece cL_largestPiece 4 (some .int) [(0, 9, 12, 13)] :: ((wsL_largestPiece_r1 ++ wsL_largestPiece_r2) ++ wsX00 ++ (vx_atS RX0 182 "java/lang/IndexOutOfBoundsException" ["java/lang/RuntimeException", "java/lang/Exception"]).filter goodWord)
def wsL_neighbours : List Cond := .codeWith yL_neighbours cL_neighbours 4 (some .int) [(0, 9, 12, 13)] :: ([.classLink RL 13 "java/lang/IndexOutOfBoundsException", .methodLink RL 35 yX0_neighbours, .instanceMethod yX0_neighbours, .selects RX0 yX0_neighbours yX0_neighbours, .initialized RX0, .code yX0_neighbours cX0_neighbours 2 (some .int), .fieldLink RX0 17 "FourTints" "near" "[I", .methodLink RX0 82 yX0_checkCountry, .static yX0_checkCountry, .code yX0_checkCountry cX0_checkCountry 1 none, .classLink RX0 178 "java/lang/IndexOutOfBoundsException", .initialized "java/lang/IndexOutOfBoundsException", .methodLink RX0 77 yJ6_bitCount_0f7a4, .static yJ6_bitCount_0f7a4, .initialized RJ6, .code yJ6_bitCount_0f7a4 cJ6_bitCount_0f7a4 1 (some .int), .constant RJ6 265 (1431655765), .constant RJ6 266 (858993459), .constant RJ6 267 (252645135)] ++ wsX00 ++ (vx_atS RX0 182 "java/lang/IndexOutOfBoundsException" ["java/lang/RuntimeException", "java/lang/Exception"]).filter goodWord)
def wsL_border_r1 : List Cond := [Cond.classLink RL 13 "java/lang/IndexOutOfBoundsException", Cond.methodLink RL 38 yX0_border, Cond.instanceMethod yX0_border, Cond.selects RX0 yX0_border yX0_border, Cond.initialized RX0, Cond.code yX0_border cX0_border 7 (some .int), Cond.fieldLink RX0 9 "FourTints" "land" "[J", Cond.methodLink RX0 82 yX0_checkCountry, Cond.static yX0_checkCountry, Cond.code yX0_checkCountry cX0_checkCountry 1 none, Cond.classLink RX0 178 "java/lang/IndexOutOfBoundsException", Cond.initialized "java/lang/IndexOutOfBoundsException", Cond.methodLink RX0 98 yX0_above, Cond.static yX0_above, Cond.code yX0_above cX0_above 2 (some .long), Cond.methodLink RX0 72 yJ13_bitCount_95d88, Cond.static yJ13_bitCount_95d88, Cond.initialized RJ13, Cond.code yJ13_bitCount_95d88 cJ13_bitCount_95d88 2 (some .int), Cond.constantLong RJ13 314 (6148914691236517205), Cond.constantLong RJ13 316 (3689348814741910323), Cond.constantLong RJ13 318 (1085102592571150095), Cond.methodLink RX0 101 yX0_below, Cond.static yX0_below]
def wsL_border_r2 : List Cond := [Cond.code yX0_below cX0_below 2 (some .long), Cond.constantLong RX0 110 (68719476735), Cond.methodLink RX0 104 yX0_leftOf, Cond.static yX0_leftOf, Cond.code yX0_leftOf cX0_leftOf 2 (some .long), Cond.constantLong RX0 196 (-1090785346), Cond.methodLink RX0 107 yX0_rightOf, Cond.static yX0_rightOf, Cond.code yX0_rightOf cX0_rightOf 2 (some .long), Cond.constantLong RX0 198 (-34905131041)]
def wsL_border : List Cond := .codeWith yL_border cL_border 5 (some .int) [(0, 10, 13, 13)] :: ((wsL_border_r1 ++ wsL_border_r2) ++ wsX00 ++ (vx_atS RX0 182 "java/lang/IndexOutOfBoundsException" ["java/lang/RuntimeException", "java/lang/Exception"]).filter goodWord)
def wsL_enclosed_r1 : List Cond := [Cond.classLink RL 13 "java/lang/IndexOutOfBoundsException", Cond.methodLink RL 41 yX0_enclosed, Cond.instanceMethod yX0_enclosed, Cond.selects RX0 yX0_enclosed yX0_enclosed, Cond.initialized RX0, Cond.code yX0_enclosed cX0_enclosed 6 (some .int), Cond.constantLong RX0 110 (68719476735), Cond.fieldLink RX0 9 "FourTints" "land" "[J", Cond.constantLong RX0 70 (-1), Cond.constantLong RX0 112 (68208171135), Cond.methodLink RX0 82 yX0_checkCountry, Cond.static yX0_checkCountry, Cond.code yX0_checkCountry cX0_checkCountry 1 none, Cond.classLink RX0 178 "java/lang/IndexOutOfBoundsException", Cond.initialized "java/lang/IndexOutOfBoundsException", Cond.methodLink RX0 114 yX0_reach, Cond.static yX0_reach, Cond.code yX0_reach cX0_reach 9 (some .long), Cond.methodLink RX0 200 yX0_spread, Cond.static yX0_spread, Cond.code yX0_spread cX0_spread 2 (some .long), Cond.methodLink RX0 98 yX0_above, Cond.static yX0_above, Cond.code yX0_above cX0_above 2 (some .long)]
def wsL_enclosed_r2 : List Cond := [Cond.methodLink RX0 101 yX0_below, Cond.static yX0_below, Cond.code yX0_below cX0_below 2 (some .long), Cond.methodLink RX0 104 yX0_leftOf, Cond.static yX0_leftOf, Cond.code yX0_leftOf cX0_leftOf 2 (some .long), Cond.constantLong RX0 196 (-1090785346), Cond.methodLink RX0 107 yX0_rightOf, Cond.static yX0_rightOf, Cond.code yX0_rightOf cX0_rightOf 2 (some .long), Cond.constantLong RX0 198 (-34905131041), Cond.methodLink RX0 72 yJ13_bitCount_95d88, Cond.static yJ13_bitCount_95d88, Cond.initialized RJ13, Cond.code yJ13_bitCount_95d88 cJ13_bitCount_95d88 2 (some .int), Cond.constantLong RJ13 314 (6148914691236517205), Cond.constantLong RJ13 316 (3689348814741910323), Cond.constantLong RJ13 318 (1085102592571150095)]
def wsL_enclosed : List Cond := .codeWith yL_enclosed cL_enclosed 4 (some .int) [(0, 9, 12, 13)] :: ((wsL_enclosed_r1 ++ wsL_enclosed_r2) ++ wsX00 ++ (vx_atS RX0 182 "java/lang/IndexOutOfBoundsException" ["java/lang/RuntimeException", "java/lang/Exception"]).filter goodWord)
def wsL_tint : List Cond := .codeWith yL_tint cL_tint 5 (some .int) [(0, 10, 13, 13), (0, 10, 17, 15)] :: ([.classLink RL 13 "java/lang/IndexOutOfBoundsException", .classLink RL 15 "java/lang/IllegalArgumentException", .methodLink RL 44 yX0_tint, .instanceMethod yX0_tint, .selects RX0 yX0_tint yX0_tint, .initialized RX0, .code yX0_tint cX0_tint 4 (some .int), .fieldLink RX0 21 "FourTints" "worn" "[I", .methodLink RX0 82 yX0_checkCountry, .static yX0_checkCountry, .code yX0_checkCountry cX0_checkCountry 1 none, .classLink RX0 178 "java/lang/IndexOutOfBoundsException", .initialized "java/lang/IndexOutOfBoundsException", .methodLink RX0 121 yX0_checkTint, .static yX0_checkTint, .code yX0_checkTint cX0_checkTint 1 none, .classLink RX0 59 "java/lang/IllegalArgumentException", .initialized "java/lang/IllegalArgumentException"] ++ wsX00 ++ (vx_atS RX0 182 "java/lang/IndexOutOfBoundsException" ["java/lang/RuntimeException", "java/lang/Exception"]).filter goodWord ++ (vx_atS RX0 63 "java/lang/IllegalArgumentException" ["java/lang/RuntimeException", "java/lang/Exception"]).filter goodWord)
def wsL_tintOf : List Cond := .codeWith yL_tintOf cL_tintOf 4 (some .int) [(0, 9, 12, 13)] :: ([.classLink RL 13 "java/lang/IndexOutOfBoundsException", .methodLink RL 47 yX0_tintOf, .instanceMethod yX0_tintOf, .selects RX0 yX0_tintOf yX0_tintOf, .initialized RX0, .code yX0_tintOf cX0_tintOf 2 (some .int), .fieldLink RX0 21 "FourTints" "worn" "[I", .methodLink RX0 82 yX0_checkCountry, .static yX0_checkCountry, .code yX0_checkCountry cX0_checkCountry 1 none, .classLink RX0 178 "java/lang/IndexOutOfBoundsException", .initialized "java/lang/IndexOutOfBoundsException"] ++ wsX00 ++ (vx_atS RX0 182 "java/lang/IndexOutOfBoundsException" ["java/lang/RuntimeException", "java/lang/Exception"]).filter goodWord)
def wsL_leastFree : List Cond := .codeWith yL_leastFree cL_leastFree 4 (some .int) [(0, 9, 12, 13)] :: ([.classLink RL 13 "java/lang/IndexOutOfBoundsException", .methodLink RL 50 yX0_leastFree, .instanceMethod yX0_leastFree, .selects RX0 yX0_leastFree yX0_leastFree, .initialized RX0, .code yX0_leastFree cX0_leastFree 2 (some .int), .fieldLink RX0 17 "FourTints" "near" "[I", .methodLink RX0 82 yX0_checkCountry, .static yX0_checkCountry, .code yX0_checkCountry cX0_checkCountry 1 none, .classLink RX0 178 "java/lang/IndexOutOfBoundsException", .initialized "java/lang/IndexOutOfBoundsException", .methodLink RX0 131 yX0_leastFreeBeside, .instanceMethod yX0_leastFreeBeside, .selects RX0 yX0_leastFreeBeside yX0_leastFreeBeside, .code yX0_leastFreeBeside cX0_leastFreeBeside 3 (some .int), .methodLink RX0 124 yX0_wearing, .instanceMethod yX0_wearing, .selects RX0 yX0_wearing yX0_wearing, .code yX0_wearing cX0_wearing 4 (some .int), .fieldLink RX0 21 "FourTints" "worn" "[I"] ++ wsX00 ++ (vx_atS RX0 182 "java/lang/IndexOutOfBoundsException" ["java/lang/RuntimeException", "java/lang/Exception"]).filter goodWord)
def wsL_chain_r1 : List Cond := [Cond.classLink RL 13 "java/lang/IndexOutOfBoundsException", Cond.classLink RL 15 "java/lang/IllegalArgumentException", Cond.classLink RL 56 "java/lang/IllegalStateException", Cond.methodLink RL 53 yX0_chain, Cond.instanceMethod yX0_chain, Cond.selects RX0 yX0_chain yX0_chain, Cond.initialized RX0, Cond.code yX0_chain cX0_chain 3 (some .int), Cond.methodLink RX0 82 yX0_checkCountry, Cond.static yX0_checkCountry, Cond.code yX0_checkCountry cX0_checkCountry 1 none, Cond.classLink RX0 178 "java/lang/IndexOutOfBoundsException", Cond.initialized "java/lang/IndexOutOfBoundsException", Cond.methodLink RX0 121 yX0_checkTint, Cond.static yX0_checkTint, Cond.code yX0_checkTint cX0_checkTint 1 none, Cond.classLink RX0 59 "java/lang/IllegalArgumentException", Cond.initialized "java/lang/IllegalArgumentException", Cond.methodLink RX0 134 yX0_checkTinted, Cond.instanceMethod yX0_checkTinted, Cond.selects RX0 yX0_checkTinted yX0_checkTinted, Cond.code yX0_checkTinted cX0_checkTinted 2 none, Cond.classLink RX0 191 "java/lang/IllegalStateException", Cond.initialized "java/lang/IllegalStateException"]
def wsL_chain_r2 : List Cond := [Cond.fieldLink RX0 13 "FourTints" "there" "I", Cond.fieldLink RX0 21 "FourTints" "worn" "[I", Cond.methodLink RX0 140 yX0_has, Cond.static yX0_has, Cond.code yX0_has cX0_has 2 (some .boolean), Cond.methodLink RX0 137 yX0_chainOf, Cond.instanceMethod yX0_chainOf, Cond.selects RX0 yX0_chainOf yX0_chainOf, Cond.code yX0_chainOf cX0_chainOf 8 (some .int), Cond.fieldLink RX0 17 "FourTints" "near" "[I", Cond.methodLink RX0 124 yX0_wearing, Cond.instanceMethod yX0_wearing, Cond.selects RX0 yX0_wearing yX0_wearing, Cond.code yX0_wearing cX0_wearing 4 (some .int), Cond.methodLink RX0 77 yJ6_bitCount_0f7a4, Cond.static yJ6_bitCount_0f7a4, Cond.initialized RJ6, Cond.code yJ6_bitCount_0f7a4 cJ6_bitCount_0f7a4 1 (some .int), Cond.constant RJ6 265 (1431655765), Cond.constant RJ6 266 (858993459), Cond.constant RJ6 267 (252645135)]
def wsL_chain : List Cond := .codeWith yL_chain cL_chain 5 (some .int) [(0, 10, 13, 13), (0, 10, 17, 15), (0, 10, 21, 56)] :: ((wsL_chain_r1 ++ wsL_chain_r2) ++ wsX00 ++ (vx_atS RX0 182 "java/lang/IndexOutOfBoundsException" ["java/lang/RuntimeException", "java/lang/Exception"]).filter goodWord ++ (vx_atS RX0 63 "java/lang/IllegalArgumentException" ["java/lang/RuntimeException", "java/lang/Exception"]).filter goodWord ++ (vx_atS RX0 195 "java/lang/IllegalStateException" ["java/lang/RuntimeException", "java/lang/Exception"]).filter goodWord)
def wsL_exchange_r1 : List Cond := [Cond.classLink RL 13 "java/lang/IndexOutOfBoundsException", Cond.classLink RL 15 "java/lang/IllegalArgumentException", Cond.classLink RL 56 "java/lang/IllegalStateException", Cond.methodLink RL 58 yX0_exchange, Cond.instanceMethod yX0_exchange, Cond.selects RX0 yX0_exchange yX0_exchange, Cond.initialized RX0, Cond.code yX0_exchange cX0_exchange 6 (some .int), Cond.fieldLink RX0 21 "FourTints" "worn" "[I", Cond.methodLink RX0 82 yX0_checkCountry, Cond.static yX0_checkCountry, Cond.code yX0_checkCountry cX0_checkCountry 1 none, Cond.classLink RX0 178 "java/lang/IndexOutOfBoundsException", Cond.initialized "java/lang/IndexOutOfBoundsException", Cond.methodLink RX0 121 yX0_checkTint, Cond.static yX0_checkTint, Cond.code yX0_checkTint cX0_checkTint 1 none, Cond.classLink RX0 59 "java/lang/IllegalArgumentException", Cond.initialized "java/lang/IllegalArgumentException", Cond.methodLink RX0 134 yX0_checkTinted, Cond.instanceMethod yX0_checkTinted, Cond.selects RX0 yX0_checkTinted yX0_checkTinted, Cond.code yX0_checkTinted cX0_checkTinted 2 none, Cond.classLink RX0 191 "java/lang/IllegalStateException"]
def wsL_exchange_r2 : List Cond := [Cond.initialized "java/lang/IllegalStateException", Cond.fieldLink RX0 13 "FourTints" "there" "I", Cond.methodLink RX0 140 yX0_has, Cond.static yX0_has, Cond.code yX0_has cX0_has 2 (some .boolean), Cond.methodLink RX0 137 yX0_chainOf, Cond.instanceMethod yX0_chainOf, Cond.selects RX0 yX0_chainOf yX0_chainOf, Cond.code yX0_chainOf cX0_chainOf 8 (some .int), Cond.fieldLink RX0 17 "FourTints" "near" "[I", Cond.methodLink RX0 124 yX0_wearing, Cond.instanceMethod yX0_wearing, Cond.selects RX0 yX0_wearing yX0_wearing, Cond.code yX0_wearing cX0_wearing 4 (some .int), Cond.methodLink RX0 77 yJ6_bitCount_0f7a4, Cond.static yJ6_bitCount_0f7a4, Cond.initialized RJ6, Cond.code yJ6_bitCount_0f7a4 cJ6_bitCount_0f7a4 1 (some .int), Cond.constant RJ6 265 (1431655765), Cond.constant RJ6 266 (858993459), Cond.constant RJ6 267 (252645135)]
def wsL_exchange : List Cond := .codeWith yL_exchange cL_exchange 5 (some .int) [(0, 10, 13, 13), (0, 10, 17, 15), (0, 10, 21, 56)] :: ((wsL_exchange_r1 ++ wsL_exchange_r2) ++ wsX00 ++ (vx_atS RX0 182 "java/lang/IndexOutOfBoundsException" ["java/lang/RuntimeException", "java/lang/Exception"]).filter goodWord ++ (vx_atS RX0 63 "java/lang/IllegalArgumentException" ["java/lang/RuntimeException", "java/lang/Exception"]).filter goodWord ++ (vx_atS RX0 195 "java/lang/IllegalStateException" ["java/lang/RuntimeException", "java/lang/Exception"]).filter goodWord)
def wsL_tintings_r1 : List Cond := [Cond.classLink RL 15 "java/lang/IllegalArgumentException", Cond.methodLink RL 61 yX0_tintings, Cond.instanceMethod yX0_tintings, Cond.selects RX0 yX0_tintings yX0_tintings, Cond.initialized RX0, Cond.code yX0_tintings cX0_tintings 7 (some .long), Cond.fieldLink RX0 31 "FourTints" "ways" "[J", Cond.fieldLink RX0 13 "FourTints" "there" "I", Cond.methodLink RX0 153 yX0_checkNumberOfTints, Cond.static yX0_checkNumberOfTints, Cond.code yX0_checkNumberOfTints cX0_checkNumberOfTints 1 none, Cond.classLink RX0 59 "java/lang/IllegalArgumentException", Cond.initialized "java/lang/IllegalArgumentException", Cond.methodLink RX0 156 yX0_markSetsWithoutNeighbours, Cond.instanceMethod yX0_markSetsWithoutNeighbours, Cond.selects RX0 yX0_markSetsWithoutNeighbours yX0_markSetsWithoutNeighbours, Cond.code yX0_markSetsWithoutNeighbours cX0_markSetsWithoutNeighbours 3 none, Cond.fieldLink RX0 27 "FourTints" "fits" "[Z", Cond.fieldLink RX0 17 "FourTints" "near" "[I", Cond.methodLink RX0 159 yJ7_fill_d0a16, Cond.static yJ7_fill_d0a16, Cond.initialized RJ7, Cond.code yJ7_fill_d0a16 cJ7_fill_d0a16 5 none, Cond.methodLink RX0 165 yX0_shareOutOneSet]
def wsL_tintings_r2 : List Cond := [Cond.instanceMethod yX0_shareOutOneSet, Cond.selects RX0 yX0_shareOutOneSet yX0_shareOutOneSet, Cond.code yX0_shareOutOneSet cX0_shareOutOneSet 4 none, Cond.methodLink RX0 217 yX0_shareOutFrom, Cond.instanceMethod yX0_shareOutFrom, Cond.selects RX0 yX0_shareOutFrom yX0_shareOutFrom, Cond.code yX0_shareOutFrom cX0_shareOutFrom 8 none]
def wsL_tintings : List Cond := .codeWith yL_tintings cL_tintings 4 (some .int) [(0, 8, 11, 15)] :: ((wsL_tintings_r1 ++ wsL_tintings_r2) ++ wsX00 ++ (vx_atS RX0 63 "java/lang/IllegalArgumentException" ["java/lang/RuntimeException", "java/lang/Exception"]).filter goodWord)
def wsL_tintingsByPairs_r1 : List Cond := [Cond.classLink RL 15 "java/lang/IllegalArgumentException", Cond.methodLink RL 65 yX0_tintingsByPairs, Cond.instanceMethod yX0_tintingsByPairs, Cond.selects RX0 yX0_tintingsByPairs yX0_tintingsByPairs, Cond.initialized RX0, Cond.code yX0_tintingsByPairs cX0_tintingsByPairs 2 (some .long), Cond.fieldLink RX0 17 "FourTints" "near" "[I", Cond.fieldLink RX0 36 "FourTints" "joined" "[[I", Cond.methodLink RX0 168 arraycopyName, Cond.native arraycopyName, Cond.static arraycopyName, Cond.initialized "java/lang/System", Cond.fieldLink RX0 13 "FourTints" "there" "I", Cond.methodLink RX0 153 yX0_checkNumberOfTints, Cond.static yX0_checkNumberOfTints, Cond.code yX0_checkNumberOfTints cX0_checkNumberOfTints 1 none, Cond.classLink RX0 59 "java/lang/IllegalArgumentException", Cond.initialized "java/lang/IllegalArgumentException", Cond.methodLink RX0 174 yX0_countByPairs, Cond.static yX0_countByPairs, Cond.code yX0_countByPairs cX0_countByPairs 14 (some .long), Cond.methodLink RX0 221 yX0_oneToTintLast, Cond.static yX0_oneToTintLast, Cond.code yX0_oneToTintLast cX0_oneToTintLast 3 (some .int)]
def wsL_tintingsByPairs_r2 : List Cond := [Cond.methodLink RX0 140 yX0_has, Cond.static yX0_has, Cond.code yX0_has cX0_has 2 (some .boolean), Cond.methodLink RX0 235 yX0_areAllNeighbours, Cond.static yX0_areAllNeighbours, Cond.code yX0_areAllNeighbours cX0_areAllNeighbours 3 (some .boolean), Cond.methodLink RX0 77 yJ6_bitCount_0f7a4, Cond.static yJ6_bitCount_0f7a4, Cond.initialized RJ6, Cond.code yJ6_bitCount_0f7a4 cJ6_bitCount_0f7a4 1 (some .int), Cond.constant RJ6 265 (1431655765), Cond.constant RJ6 266 (858993459), Cond.constant RJ6 267 (252645135), Cond.methodLink RX0 225 yX0_firstWithStranger, Cond.static yX0_firstWithStranger, Cond.code yX0_firstWithStranger cX0_firstWithStranger 3 (some .int), Cond.methodLink RX0 228 yX0_firstOf, Cond.static yX0_firstOf, Cond.code yX0_firstOf cX0_firstOf 2 (some .int), Cond.methodLink RX0 231 yX0_makeOne, Cond.static yX0_makeOne, Cond.code yX0_makeOne cX0_makeOne 5 none]
def wsL_tintingsByPairs : List Cond := .codeWith yL_tintingsByPairs cL_tintingsByPairs 4 (some .int) [(0, 8, 11, 15)] :: ((wsL_tintingsByPairs_r1 ++ wsL_tintingsByPairs_r2) ++ wsX00 ++ (vx_atS RX0 63 "java/lang/IllegalArgumentException" ["java/lang/RuntimeException", "java/lang/Exception"]).filter goodWord)
end
section
theorem dX0_init_0 : decode cX0_init 0 = .ok (.aload_n 0, 1) := by decide +kernel
theorem dX0_init_1 : decode cX0_init 1 = .ok (.invokespecial 3, 3) := by decide +kernel
theorem dX0_init_4 : decode cX0_init 4 = .ok (.aload_n 0, 1) := by decide +kernel
theorem dX0_init_5 : decode cX0_init 5 = .ok (.bipush 10, 2) := by decide +kernel
theorem dX0_init_7 : decode cX0_init 7 = .ok (.newarray .long, 2) := by decide +kernel
theorem dX0_init_9 : decode cX0_init 9 = .ok (.putfield 9, 3) := by decide +kernel
theorem dX0_init_12 : decode cX0_init 12 = .ok (.aload_n 0, 1) := by decide +kernel
theorem dX0_init_13 : decode cX0_init 13 = .ok (.iconst 0, 1) := by decide +kernel
theorem dX0_init_14 : decode cX0_init 14 = .ok (.putfield 13, 3) := by decide +kernel
theorem dX0_init_17 : decode cX0_init 17 = .ok (.aload_n 0, 1) := by decide +kernel
theorem dX0_init_18 : decode cX0_init 18 = .ok (.bipush 10, 2) := by decide +kernel
theorem dX0_init_20 : decode cX0_init 20 = .ok (.newarray .int, 2) := by decide +kernel
theorem dX0_init_22 : decode cX0_init 22 = .ok (.putfield 17, 3) := by decide +kernel
theorem dX0_init_25 : decode cX0_init 25 = .ok (.aload_n 0, 1) := by decide +kernel
theorem dX0_init_26 : decode cX0_init 26 = .ok (.bipush 10, 2) := by decide +kernel
theorem dX0_init_28 : decode cX0_init 28 = .ok (.newarray .int, 2) := by decide +kernel
theorem dX0_init_30 : decode cX0_init 30 = .ok (.putfield 21, 3) := by decide +kernel
theorem dX0_init_33 : decode cX0_init 33 = .ok (.aload_n 0, 1) := by decide +kernel
theorem dX0_init_34 : decode cX0_init 34 = .ok (.bipush 10, 2) := by decide +kernel
theorem dX0_init_36 : decode cX0_init 36 = .ok (.newarray .int, 2) := by decide +kernel
theorem dX0_init_38 : decode cX0_init 38 = .ok (.putfield 24, 3) := by decide +kernel
theorem dX0_init_41 : decode cX0_init 41 = .ok (.aload_n 0, 1) := by decide +kernel
theorem dX0_init_42 : decode cX0_init 42 = .ok (.sipush 1024, 3) := by decide +kernel
theorem dX0_init_45 : decode cX0_init 45 = .ok (.newarray .boolean, 2) := by decide +kernel
theorem dX0_init_47 : decode cX0_init 47 = .ok (.putfield 27, 3) := by decide +kernel
theorem dX0_init_50 : decode cX0_init 50 = .ok (.aload_n 0, 1) := by decide +kernel
theorem dX0_init_51 : decode cX0_init 51 = .ok (.sipush 1024, 3) := by decide +kernel
theorem dX0_init_54 : decode cX0_init 54 = .ok (.newarray .long, 2) := by decide +kernel
theorem dX0_init_56 : decode cX0_init 56 = .ok (.putfield 31, 3) := by decide +kernel
theorem dX0_init_59 : decode cX0_init 59 = .ok (.aload_n 0, 1) := by decide +kernel
theorem dX0_init_60 : decode cX0_init 60 = .ok (.bipush 10, 2) := by decide +kernel
theorem dX0_init_62 : decode cX0_init 62 = .ok (.bipush 10, 2) := by decide +kernel
theorem dX0_init_64 : decode cX0_init 64 = .ok (.multianewarray 34 2, 4) := by decide +kernel
theorem dX0_init_68 : decode cX0_init 68 = .ok (.putfield 36, 3) := by decide +kernel
theorem dX0_init_71 : decode cX0_init 71 = .ok (.return_, 1) := by decide +kernel
set_option maxRecDepth 20000 in
theorem ggX0_paint_X0_checkCell : GoodIn wsX0_paint wsX0_checkCell := goodIn_ca (goodIn_r _ [4, 5, 6] (by decide +kernel) (by decide +kernel)) (goodIn_sub (fun _ h => List.mem_cons_of_mem _ (List.mem_append_left _ (List.mem_append_right _ h))) (by decide +kernel))
set_option maxRecDepth 20000 in
theorem gX0_paint_X0_checkCell : GoodIn wsX0_paint (va_wsS RX0 39 yX0_checkCell wsX0_checkCell) := goodIn_app (goodIn_of _ (by decide +kernel)) ggX0_paint_X0_checkCell
set_option maxRecDepth 20000 in
theorem ggX0_paint_X0_checkPaint : GoodIn wsX0_paint wsX0_checkPaint := goodIn_ca (goodIn_r _ [9, 10, 11] (by decide +kernel) (by decide +kernel)) (goodIn_sub (fun _ h => List.mem_cons_of_mem _ (List.mem_append_right _ h)) (by decide +kernel))
set_option maxRecDepth 20000 in
theorem gX0_paint_X0_checkPaint : GoodIn wsX0_paint (va_wsS RX0 43 yX0_checkPaint wsX0_checkPaint) := goodIn_app (goodIn_of _ (by decide +kernel)) ggX0_paint_X0_checkPaint
set_option maxRecDepth 20000 in
theorem ggX0_paint_X0_block : GoodIn wsX0_paint wsX0_block := goodIn_r _ [14] (by decide +kernel) (by decide +kernel)
set_option maxRecDepth 20000 in
theorem gX0_paint_X0_block : GoodIn wsX0_paint (va_wsS RX0 47 yX0_block wsX0_block) := goodIn_app (goodIn_of _ (by decide +kernel)) ggX0_paint_X0_block
set_option maxRecDepth 20000 in
theorem ggX0_paint_X0_ownerOf : GoodIn wsX0_paint wsX0_ownerOf := goodIn_r _ [18, 19, 53, 54, 55, 56, 57, 58, 59, 60] (by decide +kernel) (by decide +kernel)
set_option maxRecDepth 20000 in
theorem gX0_paint_X0_ownerOf : GoodIn wsX0_paint (wsV RX0 51 RX0 yX0_ownerOf wsX0_ownerOf) := goodIn_app (goodIn_of _ (by decide +kernel)) ggX0_paint_X0_ownerOf
set_option maxRecDepth 20000 in
theorem ggX0_paint_X0_cover : GoodIn wsX0_paint wsX0_cover := goodIn_r _ [23, 19, 24, 25, 26, 27, 3, 28, 29, 30, 31, 32, 33, 34, 35, 36, 37, 38, 39, 40, 41, 42, 43, 44, 45, 46, 47, 48, 49, 50, 51, 52, 53, 54, 55, 56, 57, 58, 59, 60] (by decide +kernel) (by decide +kernel)
set_option maxRecDepth 20000 in
theorem gX0_paint_X0_cover : GoodIn wsX0_paint (wsV RX0 55 RX0 yX0_cover wsX0_cover) := goodIn_app (goodIn_of _ (by decide +kernel)) ggX0_paint_X0_cover
theorem dX0_paint_0 : decode cX0_paint 0 = .ok (.iload_n 1, 1) := by decide +kernel
theorem dX0_paint_1 : decode cX0_paint 1 = .ok (.iload_n 2, 1) := by decide +kernel
theorem dX0_paint_2 : decode cX0_paint 2 = .ok (.invokestatic 39, 3) := by decide +kernel
theorem dX0_paint_5 : decode cX0_paint 5 = .ok (.iload_n 3, 1) := by decide +kernel
theorem dX0_paint_6 : decode cX0_paint 6 = .ok (.invokestatic 43, 3) := by decide +kernel
theorem dX0_paint_9 : decode cX0_paint 9 = .ok (.iload_n 1, 1) := by decide +kernel
theorem dX0_paint_10 : decode cX0_paint 10 = .ok (.iload_n 2, 1) := by decide +kernel
theorem dX0_paint_11 : decode cX0_paint 11 = .ok (.iload_n 1, 1) := by decide +kernel
theorem dX0_paint_12 : decode cX0_paint 12 = .ok (.iload_n 2, 1) := by decide +kernel
theorem dX0_paint_13 : decode cX0_paint 13 = .ok (.invokestatic 47, 3) := by decide +kernel
theorem dX0_paint_16 : decode cX0_paint 16 = .ok (.lstore 4, 2) := by decide +kernel
theorem dX0_paint_18 : decode cX0_paint 18 = .ok (.aload_n 0, 1) := by decide +kernel
theorem dX0_paint_19 : decode cX0_paint 19 = .ok (.lload 4, 2) := by decide +kernel
theorem dX0_paint_21 : decode cX0_paint 21 = .ok (.invokevirtual 51, 3) := by decide +kernel
theorem dX0_paint_24 : decode cX0_paint 24 = .ok (.istore 6, 2) := by decide +kernel
theorem dX0_paint_26 : decode cX0_paint 26 = .ok (.aload_n 0, 1) := by decide +kernel
theorem dX0_paint_27 : decode cX0_paint 27 = .ok (.lload 4, 2) := by decide +kernel
theorem dX0_paint_29 : decode cX0_paint 29 = .ok (.iload_n 3, 1) := by decide +kernel
theorem dX0_paint_30 : decode cX0_paint 30 = .ok (.invokevirtual 55, 3) := by decide +kernel
theorem dX0_paint_33 : decode cX0_paint 33 = .ok (.iload 6, 2) := by decide +kernel
theorem dX0_paint_35 : decode cX0_paint 35 = .ok (.ireturn, 1) := by decide +kernel
set_option maxRecDepth 20000 in
theorem ggX0_paintBlock_X0_checkCell : GoodIn wsX0_paintBlock wsX0_checkCell := goodIn_ca (goodIn_r _ [7, 8, 9] (by decide +kernel) (by decide +kernel)) (goodIn_sub (fun _ h => List.mem_cons_of_mem _ (List.mem_append_right _ h)) (by decide +kernel))
set_option maxRecDepth 20000 in
theorem gX0_paintBlock_X0_checkCell : GoodIn wsX0_paintBlock (va_wsS RX0 39 yX0_checkCell wsX0_checkCell) := goodIn_app (goodIn_of _ (by decide +kernel)) ggX0_paintBlock_X0_checkCell
set_option maxRecDepth 20000 in
theorem ggX0_paintBlock_X0_checkPaint : GoodIn wsX0_paintBlock wsX0_checkPaint := goodIn_ca (goodIn_r _ [12, 1, 2] (by decide +kernel) (by decide +kernel)) (goodIn_sub (fun _ h => List.mem_cons_of_mem _ (List.mem_append_left _ (List.mem_append_right _ h))) (by decide +kernel))
set_option maxRecDepth 20000 in
theorem gX0_paintBlock_X0_checkPaint : GoodIn wsX0_paintBlock (va_wsS RX0 43 yX0_checkPaint wsX0_checkPaint) := goodIn_app (goodIn_of _ (by decide +kernel)) ggX0_paintBlock_X0_checkPaint
set_option maxRecDepth 20000 in
theorem ggX0_paintBlock_X0_block : GoodIn wsX0_paintBlock wsX0_block := goodIn_r _ [15] (by decide +kernel) (by decide +kernel)
set_option maxRecDepth 20000 in
theorem gX0_paintBlock_X0_block : GoodIn wsX0_paintBlock (va_wsS RX0 47 yX0_block wsX0_block) := goodIn_app (goodIn_of _ (by decide +kernel)) ggX0_paintBlock_X0_block
set_option maxRecDepth 20000 in
theorem ggX0_paintBlock_X0_cellsOf : GoodIn wsX0_paintBlock wsX0_cellsOf := goodIn_r _ [19, 20, 21, 3, 60, 61, 62, 63, 64, 65, 66, 67] (by decide +kernel) (by decide +kernel)
set_option maxRecDepth 20000 in
theorem gX0_paintBlock_X0_cellsOf : GoodIn wsX0_paintBlock (wsV RX0 66 RX0 yX0_cellsOf wsX0_cellsOf) := goodIn_app (goodIn_of _ (by decide +kernel)) ggX0_paintBlock_X0_cellsOf
set_option maxRecDepth 20000 in
theorem ggX0_paintBlock_J13_bitCount_95d88 : GoodIn wsX0_paintBlock wsJ13_bitCount_95d88 := goodIn_r _ [25, 26, 27, 28] (by decide +kernel) (by decide +kernel)
set_option maxRecDepth 20000 in
theorem gX0_paintBlock_J13_bitCount_95d88 : GoodIn wsX0_paintBlock (va_wsS RX0 72 yJ13_bitCount_95d88 wsJ13_bitCount_95d88) := goodIn_app (goodIn_of _ (by decide +kernel)) ggX0_paintBlock_J13_bitCount_95d88
set_option maxRecDepth 20000 in
theorem ggX0_paintBlock_X0_cover : GoodIn wsX0_paintBlock wsX0_cover := goodIn_r _ [32, 20, 3, 33, 34, 35, 6, 36, 37, 38, 39, 40, 41, 42, 43, 44, 45, 46, 47, 21, 48, 49, 50, 51, 52, 53, 54, 55, 56, 57, 58, 59, 60, 61, 62, 63, 64, 65, 66, 67] (by decide +kernel) (by decide +kernel)
set_option maxRecDepth 20000 in
theorem gX0_paintBlock_X0_cover : GoodIn wsX0_paintBlock (wsV RX0 55 RX0 yX0_cover wsX0_cover) := goodIn_app (goodIn_of _ (by decide +kernel)) ggX0_paintBlock_X0_cover
theorem dX0_paintBlock_0 : decode cX0_paintBlock 0 = .ok (.iload_n 1, 1) := by decide +kernel
theorem dX0_paintBlock_1 : decode cX0_paintBlock 1 = .ok (.iload_n 2, 1) := by decide +kernel
theorem dX0_paintBlock_2 : decode cX0_paintBlock 2 = .ok (.invokestatic 39, 3) := by decide +kernel
theorem dX0_paintBlock_5 : decode cX0_paintBlock 5 = .ok (.iload_n 3, 1) := by decide +kernel
theorem dX0_paintBlock_6 : decode cX0_paintBlock 6 = .ok (.iload 4, 2) := by decide +kernel
theorem dX0_paintBlock_8 : decode cX0_paintBlock 8 = .ok (.invokestatic 39, 3) := by decide +kernel
theorem dX0_paintBlock_11 : decode cX0_paintBlock 11 = .ok (.iload 5, 2) := by decide +kernel
theorem dX0_paintBlock_13 : decode cX0_paintBlock 13 = .ok (.invokestatic 43, 3) := by decide +kernel
theorem dX0_paintBlock_16 : decode cX0_paintBlock 16 = .ok (.iload_n 3, 1) := by decide +kernel
theorem dX0_paintBlock_17 : decode cX0_paintBlock 17 = .ok (.iload_n 1, 1) := by decide +kernel
theorem dX0_paintBlock_18 : decode cX0_paintBlock 18 = .ok (.if_icmp .lt 9, 3) := by decide +kernel
theorem dX0_paintBlock_21 : decode cX0_paintBlock 21 = .ok (.iload 4, 2) := by decide +kernel
theorem dX0_paintBlock_23 : decode cX0_paintBlock 23 = .ok (.iload_n 2, 1) := by decide +kernel
theorem dX0_paintBlock_24 : decode cX0_paintBlock 24 = .ok (.if_icmp .ge 13, 3) := by decide +kernel
theorem dX0_paintBlock_27 : decode cX0_paintBlock 27 = .ok (.new 59, 3) := by decide +kernel
theorem dX0_paintBlock_30 : decode cX0_paintBlock 30 = .ok (.dup, 1) := by decide +kernel
theorem dX0_paintBlock_31 : decode cX0_paintBlock 31 = .ok (.ldc 61, 2) := by decide +kernel
theorem dX0_paintBlock_33 : decode cX0_paintBlock 33 = .ok (.invokespecial 63, 3) := by decide +kernel
theorem dX0_paintBlock_36 : decode cX0_paintBlock 36 = .ok (.athrow, 1) := by decide +kernel
theorem dX0_paintBlock_37 : decode cX0_paintBlock 37 = .ok (.iload_n 1, 1) := by decide +kernel
theorem dX0_paintBlock_38 : decode cX0_paintBlock 38 = .ok (.iload_n 2, 1) := by decide +kernel
theorem dX0_paintBlock_39 : decode cX0_paintBlock 39 = .ok (.iload_n 3, 1) := by decide +kernel
theorem dX0_paintBlock_40 : decode cX0_paintBlock 40 = .ok (.iload 4, 2) := by decide +kernel
theorem dX0_paintBlock_42 : decode cX0_paintBlock 42 = .ok (.invokestatic 47, 3) := by decide +kernel
theorem dX0_paintBlock_45 : decode cX0_paintBlock 45 = .ok (.lstore 6, 2) := by decide +kernel
theorem dX0_paintBlock_47 : decode cX0_paintBlock 47 = .ok (.lload 6, 2) := by decide +kernel
theorem dX0_paintBlock_49 : decode cX0_paintBlock 49 = .ok (.aload_n 0, 1) := by decide +kernel
theorem dX0_paintBlock_50 : decode cX0_paintBlock 50 = .ok (.iload 5, 2) := by decide +kernel
theorem dX0_paintBlock_52 : decode cX0_paintBlock 52 = .ok (.invokevirtual 66, 3) := by decide +kernel
theorem dX0_paintBlock_55 : decode cX0_paintBlock 55 = .ok (.ldc2_w 70, 3) := by decide +kernel
theorem dX0_paintBlock_58 : decode cX0_paintBlock 58 = .ok (.lxor, 1) := by decide +kernel
theorem dX0_paintBlock_59 : decode cX0_paintBlock 59 = .ok (.land, 1) := by decide +kernel
theorem dX0_paintBlock_60 : decode cX0_paintBlock 60 = .ok (.invokestatic 72, 3) := by decide +kernel
theorem dX0_paintBlock_63 : decode cX0_paintBlock 63 = .ok (.istore 8, 2) := by decide +kernel
theorem dX0_paintBlock_65 : decode cX0_paintBlock 65 = .ok (.aload_n 0, 1) := by decide +kernel
theorem dX0_paintBlock_66 : decode cX0_paintBlock 66 = .ok (.lload 6, 2) := by decide +kernel
theorem dX0_paintBlock_68 : decode cX0_paintBlock 68 = .ok (.iload 5, 2) := by decide +kernel
theorem dX0_paintBlock_70 : decode cX0_paintBlock 70 = .ok (.invokevirtual 55, 3) := by decide +kernel
theorem dX0_paintBlock_73 : decode cX0_paintBlock 73 = .ok (.iload 8, 2) := by decide +kernel
theorem dX0_paintBlock_75 : decode cX0_paintBlock 75 = .ok (.ireturn, 1) := by decide +kernel
set_option maxRecDepth 20000 in
theorem ggX0_countryAt_X0_checkCell : GoodIn wsX0_countryAt wsX0_checkCell := goodIn_ca (goodIn_r _ [4, 5, 6] (by decide +kernel) (by decide +kernel)) (goodIn_sub (fun _ h => List.mem_cons_of_mem _ (List.mem_append_right _ h)) (by decide +kernel))
set_option maxRecDepth 20000 in
theorem gX0_countryAt_X0_checkCell : GoodIn wsX0_countryAt (va_wsS RX0 39 yX0_checkCell wsX0_checkCell) := goodIn_app (goodIn_of _ (by decide +kernel)) ggX0_countryAt_X0_checkCell
set_option maxRecDepth 20000 in
theorem ggX0_countryAt_X0_block : GoodIn wsX0_countryAt wsX0_block := goodIn_r _ [9] (by decide +kernel) (by decide +kernel)
set_option maxRecDepth 20000 in
theorem gX0_countryAt_X0_block : GoodIn wsX0_countryAt (va_wsS RX0 47 yX0_block wsX0_block) := goodIn_app (goodIn_of _ (by decide +kernel)) ggX0_countryAt_X0_block
set_option maxRecDepth 20000 in
theorem ggX0_countryAt_X0_ownerOf : GoodIn wsX0_countryAt wsX0_ownerOf := goodIn_r _ [13, 14, 15, 16, 17, 18, 19, 20, 21, 22] (by decide +kernel) (by decide +kernel)
set_option maxRecDepth 20000 in
theorem gX0_countryAt_X0_ownerOf : GoodIn wsX0_countryAt (wsV RX0 51 RX0 yX0_ownerOf wsX0_ownerOf) := goodIn_app (goodIn_of _ (by decide +kernel)) ggX0_countryAt_X0_ownerOf
theorem dX0_countryAt_0 : decode cX0_countryAt 0 = .ok (.iload_n 1, 1) := by decide +kernel
theorem dX0_countryAt_1 : decode cX0_countryAt 1 = .ok (.iload_n 2, 1) := by decide +kernel
theorem dX0_countryAt_2 : decode cX0_countryAt 2 = .ok (.invokestatic 39, 3) := by decide +kernel
theorem dX0_countryAt_5 : decode cX0_countryAt 5 = .ok (.aload_n 0, 1) := by decide +kernel
theorem dX0_countryAt_6 : decode cX0_countryAt 6 = .ok (.iload_n 1, 1) := by decide +kernel
theorem dX0_countryAt_7 : decode cX0_countryAt 7 = .ok (.iload_n 2, 1) := by decide +kernel
theorem dX0_countryAt_8 : decode cX0_countryAt 8 = .ok (.iload_n 1, 1) := by decide +kernel
theorem dX0_countryAt_9 : decode cX0_countryAt 9 = .ok (.iload_n 2, 1) := by decide +kernel
theorem dX0_countryAt_10 : decode cX0_countryAt 10 = .ok (.invokestatic 47, 3) := by decide +kernel
theorem dX0_countryAt_13 : decode cX0_countryAt 13 = .ok (.invokevirtual 51, 3) := by decide +kernel
theorem dX0_countryAt_16 : decode cX0_countryAt 16 = .ok (.ireturn, 1) := by decide +kernel
set_option maxRecDepth 20000 in
theorem ggX0_countries_J6_bitCount_0f7a4 : GoodIn wsX0_countries wsJ6_bitCount_0f7a4 := goodIn_r _ [5, 6, 7, 8] (by decide +kernel) (by decide +kernel)
set_option maxRecDepth 20000 in
theorem gX0_countries_J6_bitCount_0f7a4 : GoodIn wsX0_countries (va_wsS RX0 77 yJ6_bitCount_0f7a4 wsJ6_bitCount_0f7a4) := goodIn_app (goodIn_of _ (by decide +kernel)) ggX0_countries_J6_bitCount_0f7a4
theorem dX0_countries_0 : decode cX0_countries 0 = .ok (.aload_n 0, 1) := by decide +kernel
theorem dX0_countries_1 : decode cX0_countries 1 = .ok (.getfield 13, 3) := by decide +kernel
theorem dX0_countries_4 : decode cX0_countries 4 = .ok (.invokestatic 77, 3) := by decide +kernel
theorem dX0_countries_7 : decode cX0_countries 7 = .ok (.ireturn, 1) := by decide +kernel
set_option maxRecDepth 20000 in
theorem ggX0_area_X0_checkCountry : GoodIn wsX0_area wsX0_checkCountry := goodIn_ca (goodIn_r _ [5, 6, 7] (by decide +kernel) (by decide +kernel)) (goodIn_sub (fun _ h => List.mem_cons_of_mem _ (List.mem_append_right _ h)) (by decide +kernel))
set_option maxRecDepth 20000 in
theorem gX0_area_X0_checkCountry : GoodIn wsX0_area (va_wsS RX0 82 yX0_checkCountry wsX0_checkCountry) := goodIn_app (goodIn_of _ (by decide +kernel)) ggX0_area_X0_checkCountry
set_option maxRecDepth 20000 in
theorem ggX0_area_J13_bitCount_95d88 : GoodIn wsX0_area wsJ13_bitCount_95d88 := goodIn_r _ [11, 12, 13, 14] (by decide +kernel) (by decide +kernel)
set_option maxRecDepth 20000 in
theorem gX0_area_J13_bitCount_95d88 : GoodIn wsX0_area (va_wsS RX0 72 yJ13_bitCount_95d88 wsJ13_bitCount_95d88) := goodIn_app (goodIn_of _ (by decide +kernel)) ggX0_area_J13_bitCount_95d88
theorem dX0_area_0 : decode cX0_area 0 = .ok (.iload_n 1, 1) := by decide +kernel
theorem dX0_area_1 : decode cX0_area 1 = .ok (.invokestatic 82, 3) := by decide +kernel
theorem dX0_area_4 : decode cX0_area 4 = .ok (.aload_n 0, 1) := by decide +kernel
theorem dX0_area_5 : decode cX0_area 5 = .ok (.getfield 9, 3) := by decide +kernel
theorem dX0_area_8 : decode cX0_area 8 = .ok (.iload_n 1, 1) := by decide +kernel
theorem dX0_area_9 : decode cX0_area 9 = .ok (.laload, 1) := by decide +kernel
theorem dX0_area_10 : decode cX0_area 10 = .ok (.invokestatic 72, 3) := by decide +kernel
theorem dX0_area_13 : decode cX0_area 13 = .ok (.ireturn, 1) := by decide +kernel
set_option maxRecDepth 20000 in
theorem ggX0_pieces_X0_checkCountry : GoodIn wsX0_pieces wsX0_checkCountry := goodIn_ca (goodIn_r _ [5, 6, 7] (by decide +kernel) (by decide +kernel)) (goodIn_sub (fun _ h => List.mem_cons_of_mem _ (List.mem_append_right _ h)) (by decide +kernel))
set_option maxRecDepth 20000 in
theorem gX0_pieces_X0_checkCountry : GoodIn wsX0_pieces (va_wsS RX0 82 yX0_checkCountry wsX0_checkCountry) := goodIn_app (goodIn_of _ (by decide +kernel)) ggX0_pieces_X0_checkCountry
set_option maxRecDepth 20000 in
theorem ggX0_pieces_X0_countPieces : GoodIn wsX0_pieces wsX0_countPieces := goodIn_r _ [10, 11, 12, 13, 4, 14, 15, 16, 17, 18, 19, 20, 21, 22, 23, 24, 25, 26, 27, 28, 29, 30, 31, 32, 33, 34, 35] (by decide +kernel) (by decide +kernel)
set_option maxRecDepth 20000 in
theorem gX0_pieces_X0_countPieces : GoodIn wsX0_pieces (va_wsS RX0 85 yX0_countPieces wsX0_countPieces) := goodIn_app (goodIn_of _ (by decide +kernel)) ggX0_pieces_X0_countPieces
theorem dX0_pieces_0 : decode cX0_pieces 0 = .ok (.iload_n 1, 1) := by decide +kernel
theorem dX0_pieces_1 : decode cX0_pieces 1 = .ok (.invokestatic 82, 3) := by decide +kernel
theorem dX0_pieces_4 : decode cX0_pieces 4 = .ok (.aload_n 0, 1) := by decide +kernel
theorem dX0_pieces_5 : decode cX0_pieces 5 = .ok (.getfield 9, 3) := by decide +kernel
theorem dX0_pieces_8 : decode cX0_pieces 8 = .ok (.iload_n 1, 1) := by decide +kernel
theorem dX0_pieces_9 : decode cX0_pieces 9 = .ok (.laload, 1) := by decide +kernel
theorem dX0_pieces_10 : decode cX0_pieces 10 = .ok (.invokestatic 85, 3) := by decide +kernel
theorem dX0_pieces_13 : decode cX0_pieces 13 = .ok (.ireturn, 1) := by decide +kernel
set_option maxRecDepth 20000 in
theorem ggX0_largestPiece_X0_checkCountry : GoodIn wsX0_largestPiece wsX0_checkCountry := goodIn_ca (goodIn_r _ [10, 11, 12] (by decide +kernel) (by decide +kernel)) (goodIn_sub (fun _ h => List.mem_cons_of_mem _ (List.mem_append_right _ h)) (by decide +kernel))
set_option maxRecDepth 20000 in
theorem gX0_largestPiece_X0_checkCountry : GoodIn wsX0_largestPiece (va_wsS RX0 82 yX0_checkCountry wsX0_checkCountry) := goodIn_app (goodIn_of _ (by decide +kernel)) ggX0_largestPiece_X0_checkCountry
set_option maxRecDepth 20000 in
theorem ggX0_largestPiece_X0_pieceIn : GoodIn wsX0_largestPiece wsX0_pieceIn := goodIn_r _ [15, 16, 17, 9, 18, 19, 20, 21, 22, 23, 24, 25, 26, 27, 28, 29, 30, 31, 32, 33, 34, 35, 36] (by decide +kernel) (by decide +kernel)
set_option maxRecDepth 20000 in
theorem gX0_largestPiece_X0_pieceIn : GoodIn wsX0_largestPiece (va_wsS RX0 88 yX0_pieceIn wsX0_pieceIn) := goodIn_app (goodIn_of _ (by decide +kernel)) ggX0_largestPiece_X0_pieceIn
set_option maxRecDepth 20000 in
theorem ggX0_largestPiece_J13_bitCount_95d88 : GoodIn wsX0_largestPiece wsJ13_bitCount_95d88 := goodIn_r _ [40, 41, 42, 43] (by decide +kernel) (by decide +kernel)
set_option maxRecDepth 20000 in
theorem gX0_largestPiece_J13_bitCount_95d88 : GoodIn wsX0_largestPiece (va_wsS RX0 72 yJ13_bitCount_95d88 wsJ13_bitCount_95d88) := goodIn_app (goodIn_of _ (by decide +kernel)) ggX0_largestPiece_J13_bitCount_95d88
theorem dX0_largestPiece_0 : decode cX0_largestPiece 0 = .ok (.iload_n 1, 1) := by decide +kernel
theorem dX0_largestPiece_1 : decode cX0_largestPiece 1 = .ok (.invokestatic 82, 3) := by decide +kernel
theorem dX0_largestPiece_4 : decode cX0_largestPiece 4 = .ok (.iconst 0, 1) := by decide +kernel
theorem dX0_largestPiece_5 : decode cX0_largestPiece 5 = .ok (.istore_n 2, 1) := by decide +kernel
theorem dX0_largestPiece_6 : decode cX0_largestPiece 6 = .ok (.aload_n 0, 1) := by decide +kernel
theorem dX0_largestPiece_7 : decode cX0_largestPiece 7 = .ok (.getfield 9, 3) := by decide +kernel
theorem dX0_largestPiece_10 : decode cX0_largestPiece 10 = .ok (.iload_n 1, 1) := by decide +kernel
theorem dX0_largestPiece_11 : decode cX0_largestPiece 11 = .ok (.laload, 1) := by decide +kernel
theorem dX0_largestPiece_12 : decode cX0_largestPiece 12 = .ok (.lstore_n 3, 1) := by decide +kernel
theorem dX0_largestPiece_13 : decode cX0_largestPiece 13 = .ok (.iconst 0, 1) := by decide +kernel
theorem dX0_largestPiece_14 : decode cX0_largestPiece 14 = .ok (.istore 5, 2) := by decide +kernel
theorem dX0_largestPiece_16 : decode cX0_largestPiece 16 = .ok (.iload 5, 2) := by decide +kernel
theorem dX0_largestPiece_18 : decode cX0_largestPiece 18 = .ok (.bipush 36, 2) := by decide +kernel
theorem dX0_largestPiece_20 : decode cX0_largestPiece 20 = .ok (.if_icmp .ge 40, 3) := by decide +kernel
theorem dX0_largestPiece_23 : decode cX0_largestPiece 23 = .ok (.lload_n 3, 1) := by decide +kernel
theorem dX0_largestPiece_24 : decode cX0_largestPiece 24 = .ok (.lconst 0, 1) := by decide +kernel
theorem dX0_largestPiece_25 : decode cX0_largestPiece 25 = .ok (.lcmp, 1) := by decide +kernel
theorem dX0_largestPiece_26 : decode cX0_largestPiece 26 = .ok (.ifCond .eq 34, 3) := by decide +kernel
theorem dX0_largestPiece_29 : decode cX0_largestPiece 29 = .ok (.lload_n 3, 1) := by decide +kernel
theorem dX0_largestPiece_30 : decode cX0_largestPiece 30 = .ok (.invokestatic 88, 3) := by decide +kernel
theorem dX0_largestPiece_33 : decode cX0_largestPiece 33 = .ok (.lstore 6, 2) := by decide +kernel
theorem dX0_largestPiece_35 : decode cX0_largestPiece 35 = .ok (.iload_n 2, 1) := by decide +kernel
theorem dX0_largestPiece_36 : decode cX0_largestPiece 36 = .ok (.lload 6, 2) := by decide +kernel
theorem dX0_largestPiece_38 : decode cX0_largestPiece 38 = .ok (.invokestatic 72, 3) := by decide +kernel
theorem dX0_largestPiece_41 : decode cX0_largestPiece 41 = .ok (.invokestatic 92, 3) := by decide +kernel
theorem dX0_largestPiece_44 : decode cX0_largestPiece 44 = .ok (.istore_n 2, 1) := by decide +kernel
theorem dX0_largestPiece_45 : decode cX0_largestPiece 45 = .ok (.lload_n 3, 1) := by decide +kernel
theorem dX0_largestPiece_46 : decode cX0_largestPiece 46 = .ok (.lload 6, 2) := by decide +kernel
theorem dX0_largestPiece_48 : decode cX0_largestPiece 48 = .ok (.ldc2_w 70, 3) := by decide +kernel
theorem dX0_largestPiece_51 : decode cX0_largestPiece 51 = .ok (.lxor, 1) := by decide +kernel
theorem dX0_largestPiece_52 : decode cX0_largestPiece 52 = .ok (.land, 1) := by decide +kernel
theorem dX0_largestPiece_53 : decode cX0_largestPiece 53 = .ok (.lstore_n 3, 1) := by decide +kernel
theorem dX0_largestPiece_54 : decode cX0_largestPiece 54 = .ok (.iinc 5 1, 3) := by decide +kernel
theorem dX0_largestPiece_57 : decode cX0_largestPiece 57 = .ok (.goto (-41), 3) := by decide +kernel
theorem dX0_largestPiece_60 : decode cX0_largestPiece 60 = .ok (.iload_n 2, 1) := by decide +kernel
theorem dX0_largestPiece_61 : decode cX0_largestPiece 61 = .ok (.ireturn, 1) := by decide +kernel
set_option maxRecDepth 20000 in
theorem ggX0_scattered_X0_countPieces : GoodIn wsX0_scattered wsX0_countPieces := goodIn_r _ [5, 6, 7, 8, 4, 9, 10, 11, 12, 13, 14, 15, 16, 17, 18, 19, 20, 21, 22, 23, 24, 25, 26, 27, 28, 29, 30] (by decide +kernel) (by decide +kernel)
set_option maxRecDepth 20000 in
theorem gX0_scattered_X0_countPieces : GoodIn wsX0_scattered (va_wsS RX0 85 yX0_countPieces wsX0_countPieces) := goodIn_app (goodIn_of _ (by decide +kernel)) ggX0_scattered_X0_countPieces
theorem dX0_scattered_0 : decode cX0_scattered 0 = .ok (.iconst 0, 1) := by decide +kernel
theorem dX0_scattered_1 : decode cX0_scattered 1 = .ok (.istore_n 1, 1) := by decide +kernel
theorem dX0_scattered_2 : decode cX0_scattered 2 = .ok (.iconst 0, 1) := by decide +kernel
theorem dX0_scattered_3 : decode cX0_scattered 3 = .ok (.istore_n 2, 1) := by decide +kernel
theorem dX0_scattered_4 : decode cX0_scattered 4 = .ok (.iload_n 2, 1) := by decide +kernel
theorem dX0_scattered_5 : decode cX0_scattered 5 = .ok (.bipush 10, 2) := by decide +kernel
theorem dX0_scattered_7 : decode cX0_scattered 7 = .ok (.if_icmp .ge 25, 3) := by decide +kernel
theorem dX0_scattered_10 : decode cX0_scattered 10 = .ok (.aload_n 0, 1) := by decide +kernel
theorem dX0_scattered_11 : decode cX0_scattered 11 = .ok (.getfield 9, 3) := by decide +kernel
theorem dX0_scattered_14 : decode cX0_scattered 14 = .ok (.iload_n 2, 1) := by decide +kernel
theorem dX0_scattered_15 : decode cX0_scattered 15 = .ok (.laload, 1) := by decide +kernel
theorem dX0_scattered_16 : decode cX0_scattered 16 = .ok (.invokestatic 85, 3) := by decide +kernel
theorem dX0_scattered_19 : decode cX0_scattered 19 = .ok (.iconst 1, 1) := by decide +kernel
theorem dX0_scattered_20 : decode cX0_scattered 20 = .ok (.if_icmp .le 6, 3) := by decide +kernel
theorem dX0_scattered_23 : decode cX0_scattered 23 = .ok (.iinc 1 1, 3) := by decide +kernel
theorem dX0_scattered_26 : decode cX0_scattered 26 = .ok (.iinc 2 1, 3) := by decide +kernel
theorem dX0_scattered_29 : decode cX0_scattered 29 = .ok (.goto (-25), 3) := by decide +kernel
theorem dX0_scattered_32 : decode cX0_scattered 32 = .ok (.iload_n 1, 1) := by decide +kernel
theorem dX0_scattered_33 : decode cX0_scattered 33 = .ok (.ireturn, 1) := by decide +kernel
set_option maxRecDepth 20000 in
theorem ggX0_neighbours_X0_checkCountry : GoodIn wsX0_neighbours wsX0_checkCountry := goodIn_ca (goodIn_r _ [5, 6, 7] (by decide +kernel) (by decide +kernel)) (goodIn_sub (fun _ h => List.mem_cons_of_mem _ (List.mem_append_right _ h)) (by decide +kernel))
set_option maxRecDepth 20000 in
theorem gX0_neighbours_X0_checkCountry : GoodIn wsX0_neighbours (va_wsS RX0 82 yX0_checkCountry wsX0_checkCountry) := goodIn_app (goodIn_of _ (by decide +kernel)) ggX0_neighbours_X0_checkCountry
set_option maxRecDepth 20000 in
theorem ggX0_neighbours_J6_bitCount_0f7a4 : GoodIn wsX0_neighbours wsJ6_bitCount_0f7a4 := goodIn_r _ [11, 12, 13, 14] (by decide +kernel) (by decide +kernel)
set_option maxRecDepth 20000 in
theorem gX0_neighbours_J6_bitCount_0f7a4 : GoodIn wsX0_neighbours (va_wsS RX0 77 yJ6_bitCount_0f7a4 wsJ6_bitCount_0f7a4) := goodIn_app (goodIn_of _ (by decide +kernel)) ggX0_neighbours_J6_bitCount_0f7a4
theorem dX0_neighbours_0 : decode cX0_neighbours 0 = .ok (.iload_n 1, 1) := by decide +kernel
theorem dX0_neighbours_1 : decode cX0_neighbours 1 = .ok (.invokestatic 82, 3) := by decide +kernel
theorem dX0_neighbours_4 : decode cX0_neighbours 4 = .ok (.aload_n 0, 1) := by decide +kernel
theorem dX0_neighbours_5 : decode cX0_neighbours 5 = .ok (.getfield 17, 3) := by decide +kernel
theorem dX0_neighbours_8 : decode cX0_neighbours 8 = .ok (.iload_n 1, 1) := by decide +kernel
theorem dX0_neighbours_9 : decode cX0_neighbours 9 = .ok (.iaload, 1) := by decide +kernel
theorem dX0_neighbours_10 : decode cX0_neighbours 10 = .ok (.invokestatic 77, 3) := by decide +kernel
theorem dX0_neighbours_13 : decode cX0_neighbours 13 = .ok (.ireturn, 1) := by decide +kernel
set_option maxRecDepth 20000 in
theorem ggX0_border_X0_checkCountry : GoodIn wsX0_border wsX0_checkCountry := goodIn_ca (goodIn_r _ [5, 6, 7] (by decide +kernel) (by decide +kernel)) (goodIn_sub (fun _ h => List.mem_cons_of_mem _ (List.mem_append_right _ h)) (by decide +kernel))
set_option maxRecDepth 20000 in
theorem gX0_border_X0_checkCountry : GoodIn wsX0_border (va_wsS RX0 82 yX0_checkCountry wsX0_checkCountry) := goodIn_app (goodIn_of _ (by decide +kernel)) ggX0_border_X0_checkCountry
set_option maxRecDepth 20000 in
theorem ggX0_border_X0_above : GoodIn wsX0_border wsX0_above := goodIn_r _ [10] (by decide +kernel) (by decide +kernel)
set_option maxRecDepth 20000 in
theorem gX0_border_X0_above : GoodIn wsX0_border (va_wsS RX0 98 yX0_above wsX0_above) := goodIn_app (goodIn_of _ (by decide +kernel)) ggX0_border_X0_above
set_option maxRecDepth 20000 in
theorem ggX0_border_J13_bitCount_95d88 : GoodIn wsX0_border wsJ13_bitCount_95d88 := goodIn_r _ [14, 15, 16, 17] (by decide +kernel) (by decide +kernel)
set_option maxRecDepth 20000 in
theorem gX0_border_J13_bitCount_95d88 : GoodIn wsX0_border (va_wsS RX0 72 yJ13_bitCount_95d88 wsJ13_bitCount_95d88) := goodIn_app (goodIn_of _ (by decide +kernel)) ggX0_border_J13_bitCount_95d88
set_option maxRecDepth 20000 in
theorem ggX0_border_X0_below : GoodIn wsX0_border wsX0_below := goodIn_r _ [20, 21] (by decide +kernel) (by decide +kernel)
set_option maxRecDepth 20000 in
theorem gX0_border_X0_below : GoodIn wsX0_border (va_wsS RX0 101 yX0_below wsX0_below) := goodIn_app (goodIn_of _ (by decide +kernel)) ggX0_border_X0_below
set_option maxRecDepth 20000 in
theorem ggX0_border_X0_leftOf : GoodIn wsX0_border wsX0_leftOf := goodIn_r _ [24, 25] (by decide +kernel) (by decide +kernel)
set_option maxRecDepth 20000 in
theorem gX0_border_X0_leftOf : GoodIn wsX0_border (va_wsS RX0 104 yX0_leftOf wsX0_leftOf) := goodIn_app (goodIn_of _ (by decide +kernel)) ggX0_border_X0_leftOf
set_option maxRecDepth 20000 in
theorem ggX0_border_X0_rightOf : GoodIn wsX0_border wsX0_rightOf := goodIn_r _ [28, 29] (by decide +kernel) (by decide +kernel)
set_option maxRecDepth 20000 in
theorem gX0_border_X0_rightOf : GoodIn wsX0_border (va_wsS RX0 107 yX0_rightOf wsX0_rightOf) := goodIn_app (goodIn_of _ (by decide +kernel)) ggX0_border_X0_rightOf
theorem dX0_border_0 : decode cX0_border 0 = .ok (.iload_n 1, 1) := by decide +kernel
theorem dX0_border_1 : decode cX0_border 1 = .ok (.invokestatic 82, 3) := by decide +kernel
theorem dX0_border_4 : decode cX0_border 4 = .ok (.iload_n 2, 1) := by decide +kernel
theorem dX0_border_5 : decode cX0_border 5 = .ok (.invokestatic 82, 3) := by decide +kernel
theorem dX0_border_8 : decode cX0_border 8 = .ok (.iload_n 1, 1) := by decide +kernel
theorem dX0_border_9 : decode cX0_border 9 = .ok (.iload_n 2, 1) := by decide +kernel
theorem dX0_border_10 : decode cX0_border 10 = .ok (.if_icmp .ne 5, 3) := by decide +kernel
theorem dX0_border_13 : decode cX0_border 13 = .ok (.iconst 0, 1) := by decide +kernel
theorem dX0_border_14 : decode cX0_border 14 = .ok (.ireturn, 1) := by decide +kernel
theorem dX0_border_15 : decode cX0_border 15 = .ok (.aload_n 0, 1) := by decide +kernel
theorem dX0_border_16 : decode cX0_border 16 = .ok (.getfield 9, 3) := by decide +kernel
theorem dX0_border_19 : decode cX0_border 19 = .ok (.iload_n 1, 1) := by decide +kernel
theorem dX0_border_20 : decode cX0_border 20 = .ok (.laload, 1) := by decide +kernel
theorem dX0_border_21 : decode cX0_border 21 = .ok (.lstore_n 3, 1) := by decide +kernel
theorem dX0_border_22 : decode cX0_border 22 = .ok (.aload_n 0, 1) := by decide +kernel
theorem dX0_border_23 : decode cX0_border 23 = .ok (.getfield 9, 3) := by decide +kernel
theorem dX0_border_26 : decode cX0_border 26 = .ok (.iload_n 2, 1) := by decide +kernel
theorem dX0_border_27 : decode cX0_border 27 = .ok (.laload, 1) := by decide +kernel
theorem dX0_border_28 : decode cX0_border 28 = .ok (.lstore 5, 2) := by decide +kernel
theorem dX0_border_30 : decode cX0_border 30 = .ok (.lload_n 3, 1) := by decide +kernel
theorem dX0_border_31 : decode cX0_border 31 = .ok (.invokestatic 98, 3) := by decide +kernel
theorem dX0_border_34 : decode cX0_border 34 = .ok (.lload 5, 2) := by decide +kernel
theorem dX0_border_36 : decode cX0_border 36 = .ok (.land, 1) := by decide +kernel
theorem dX0_border_37 : decode cX0_border 37 = .ok (.invokestatic 72, 3) := by decide +kernel
theorem dX0_border_40 : decode cX0_border 40 = .ok (.lload_n 3, 1) := by decide +kernel
theorem dX0_border_41 : decode cX0_border 41 = .ok (.invokestatic 101, 3) := by decide +kernel
theorem dX0_border_44 : decode cX0_border 44 = .ok (.lload 5, 2) := by decide +kernel
theorem dX0_border_46 : decode cX0_border 46 = .ok (.land, 1) := by decide +kernel
theorem dX0_border_47 : decode cX0_border 47 = .ok (.invokestatic 72, 3) := by decide +kernel
theorem dX0_border_50 : decode cX0_border 50 = .ok (.iadd, 1) := by decide +kernel
theorem dX0_border_51 : decode cX0_border 51 = .ok (.lload_n 3, 1) := by decide +kernel
theorem dX0_border_52 : decode cX0_border 52 = .ok (.invokestatic 104, 3) := by decide +kernel
theorem dX0_border_55 : decode cX0_border 55 = .ok (.lload 5, 2) := by decide +kernel
theorem dX0_border_57 : decode cX0_border 57 = .ok (.land, 1) := by decide +kernel
theorem dX0_border_58 : decode cX0_border 58 = .ok (.invokestatic 72, 3) := by decide +kernel
theorem dX0_border_61 : decode cX0_border 61 = .ok (.iadd, 1) := by decide +kernel
theorem dX0_border_62 : decode cX0_border 62 = .ok (.lload_n 3, 1) := by decide +kernel
theorem dX0_border_63 : decode cX0_border 63 = .ok (.invokestatic 107, 3) := by decide +kernel
theorem dX0_border_66 : decode cX0_border 66 = .ok (.lload 5, 2) := by decide +kernel
theorem dX0_border_68 : decode cX0_border 68 = .ok (.land, 1) := by decide +kernel
theorem dX0_border_69 : decode cX0_border 69 = .ok (.invokestatic 72, 3) := by decide +kernel
theorem dX0_border_72 : decode cX0_border 72 = .ok (.iadd, 1) := by decide +kernel
theorem dX0_border_73 : decode cX0_border 73 = .ok (.ireturn, 1) := by decide +kernel
set_option maxRecDepth 20000 in
theorem ggX0_enclosed_X0_checkCountry : GoodIn wsX0_enclosed wsX0_checkCountry := goodIn_ca (goodIn_r _ [8, 9, 10] (by decide +kernel) (by decide +kernel)) (goodIn_sub (fun _ h => List.mem_cons_of_mem _ (List.mem_append_right _ h)) (by decide +kernel))
set_option maxRecDepth 20000 in
theorem gX0_enclosed_X0_checkCountry : GoodIn wsX0_enclosed (va_wsS RX0 82 yX0_checkCountry wsX0_checkCountry) := goodIn_app (goodIn_of _ (by decide +kernel)) ggX0_enclosed_X0_checkCountry
set_option maxRecDepth 20000 in
theorem ggX0_enclosed_X0_reach : GoodIn wsX0_enclosed wsX0_reach := goodIn_r _ [13, 14, 15, 7, 16, 17, 18, 19, 20, 21, 22, 1, 23, 24, 25, 26, 27, 28, 29, 30] (by decide +kernel) (by decide +kernel)
set_option maxRecDepth 20000 in
theorem gX0_enclosed_X0_reach : GoodIn wsX0_enclosed (va_wsS RX0 114 yX0_reach wsX0_reach) := goodIn_app (goodIn_of _ (by decide +kernel)) ggX0_enclosed_X0_reach
set_option maxRecDepth 20000 in
theorem ggX0_enclosed_J13_bitCount_95d88 : GoodIn wsX0_enclosed wsJ13_bitCount_95d88 := goodIn_r _ [34, 35, 36, 37] (by decide +kernel) (by decide +kernel)
set_option maxRecDepth 20000 in
theorem gX0_enclosed_J13_bitCount_95d88 : GoodIn wsX0_enclosed (va_wsS RX0 72 yJ13_bitCount_95d88 wsJ13_bitCount_95d88) := goodIn_app (goodIn_of _ (by decide +kernel)) ggX0_enclosed_J13_bitCount_95d88
theorem dX0_enclosed_0 : decode cX0_enclosed 0 = .ok (.iload_n 1, 1) := by decide +kernel
theorem dX0_enclosed_1 : decode cX0_enclosed 1 = .ok (.invokestatic 82, 3) := by decide +kernel
theorem dX0_enclosed_4 : decode cX0_enclosed 4 = .ok (.ldc2_w 110, 3) := by decide +kernel
theorem dX0_enclosed_7 : decode cX0_enclosed 7 = .ok (.aload_n 0, 1) := by decide +kernel
theorem dX0_enclosed_8 : decode cX0_enclosed 8 = .ok (.getfield 9, 3) := by decide +kernel
theorem dX0_enclosed_11 : decode cX0_enclosed 11 = .ok (.iload_n 1, 1) := by decide +kernel
theorem dX0_enclosed_12 : decode cX0_enclosed 12 = .ok (.laload, 1) := by decide +kernel
theorem dX0_enclosed_13 : decode cX0_enclosed 13 = .ok (.ldc2_w 70, 3) := by decide +kernel
theorem dX0_enclosed_16 : decode cX0_enclosed 16 = .ok (.lxor, 1) := by decide +kernel
theorem dX0_enclosed_17 : decode cX0_enclosed 17 = .ok (.land, 1) := by decide +kernel
theorem dX0_enclosed_18 : decode cX0_enclosed 18 = .ok (.lstore_n 2, 1) := by decide +kernel
theorem dX0_enclosed_19 : decode cX0_enclosed 19 = .ok (.ldc2_w 112, 3) := by decide +kernel
theorem dX0_enclosed_22 : decode cX0_enclosed 22 = .ok (.lload_n 2, 1) := by decide +kernel
theorem dX0_enclosed_23 : decode cX0_enclosed 23 = .ok (.land, 1) := by decide +kernel
theorem dX0_enclosed_24 : decode cX0_enclosed 24 = .ok (.lload_n 2, 1) := by decide +kernel
theorem dX0_enclosed_25 : decode cX0_enclosed 25 = .ok (.invokestatic 114, 3) := by decide +kernel
theorem dX0_enclosed_28 : decode cX0_enclosed 28 = .ok (.lstore 4, 2) := by decide +kernel
theorem dX0_enclosed_30 : decode cX0_enclosed 30 = .ok (.lload_n 2, 1) := by decide +kernel
theorem dX0_enclosed_31 : decode cX0_enclosed 31 = .ok (.lload 4, 2) := by decide +kernel
theorem dX0_enclosed_33 : decode cX0_enclosed 33 = .ok (.ldc2_w 70, 3) := by decide +kernel
theorem dX0_enclosed_36 : decode cX0_enclosed 36 = .ok (.lxor, 1) := by decide +kernel
theorem dX0_enclosed_37 : decode cX0_enclosed 37 = .ok (.land, 1) := by decide +kernel
theorem dX0_enclosed_38 : decode cX0_enclosed 38 = .ok (.invokestatic 72, 3) := by decide +kernel
theorem dX0_enclosed_41 : decode cX0_enclosed 41 = .ok (.ireturn, 1) := by decide +kernel
set_option maxRecDepth 20000 in
theorem ggX0_allNeighbours_X0_markSetsOfNeighbours : GoodIn wsX0_allNeighbours wsX0_markSetsOfNeighbours := goodIn_r _ [11, 1, 12, 20, 21, 22, 23, 24, 25, 26, 27] (by decide +kernel) (by decide +kernel)
set_option maxRecDepth 20000 in
theorem gX0_allNeighbours_X0_markSetsOfNeighbours : GoodIn wsX0_allNeighbours (wsV RX0 118 RX0 yX0_markSetsOfNeighbours wsX0_markSetsOfNeighbours) := goodIn_app (goodIn_of _ (by decide +kernel)) ggX0_allNeighbours_X0_markSetsOfNeighbours
set_option maxRecDepth 20000 in
theorem ggX0_allNeighbours_J6_bitCount_0f7a4 : GoodIn wsX0_allNeighbours wsJ6_bitCount_0f7a4 := goodIn_r _ [16, 17, 18, 19] (by decide +kernel) (by decide +kernel)
set_option maxRecDepth 20000 in
theorem gX0_allNeighbours_J6_bitCount_0f7a4 : GoodIn wsX0_allNeighbours (va_wsS RX0 77 yJ6_bitCount_0f7a4 wsJ6_bitCount_0f7a4) := goodIn_app (goodIn_of _ (by decide +kernel)) ggX0_allNeighbours_J6_bitCount_0f7a4
theorem dX0_allNeighbours_0 : decode cX0_allNeighbours 0 = .ok (.aload_n 0, 1) := by decide +kernel
theorem dX0_allNeighbours_1 : decode cX0_allNeighbours 1 = .ok (.invokevirtual 118, 3) := by decide +kernel
theorem dX0_allNeighbours_4 : decode cX0_allNeighbours 4 = .ok (.iconst 0, 1) := by decide +kernel
theorem dX0_allNeighbours_5 : decode cX0_allNeighbours 5 = .ok (.istore_n 1, 1) := by decide +kernel
theorem dX0_allNeighbours_6 : decode cX0_allNeighbours 6 = .ok (.iconst 0, 1) := by decide +kernel
theorem dX0_allNeighbours_7 : decode cX0_allNeighbours 7 = .ok (.istore_n 2, 1) := by decide +kernel
theorem dX0_allNeighbours_8 : decode cX0_allNeighbours 8 = .ok (.iload_n 2, 1) := by decide +kernel
theorem dX0_allNeighbours_9 : decode cX0_allNeighbours 9 = .ok (.sipush 1024, 3) := by decide +kernel
theorem dX0_allNeighbours_12 : decode cX0_allNeighbours 12 = .ok (.if_icmp .ge 38, 3) := by decide +kernel
theorem dX0_allNeighbours_15 : decode cX0_allNeighbours 15 = .ok (.aload_n 0, 1) := by decide +kernel
theorem dX0_allNeighbours_16 : decode cX0_allNeighbours 16 = .ok (.getfield 27, 3) := by decide +kernel
theorem dX0_allNeighbours_19 : decode cX0_allNeighbours 19 = .ok (.iload_n 2, 1) := by decide +kernel
theorem dX0_allNeighbours_20 : decode cX0_allNeighbours 20 = .ok (.baload, 1) := by decide +kernel
theorem dX0_allNeighbours_21 : decode cX0_allNeighbours 21 = .ok (.ifCond .eq 23, 3) := by decide +kernel
theorem dX0_allNeighbours_24 : decode cX0_allNeighbours 24 = .ok (.iload_n 2, 1) := by decide +kernel
theorem dX0_allNeighbours_25 : decode cX0_allNeighbours 25 = .ok (.aload_n 0, 1) := by decide +kernel
theorem dX0_allNeighbours_26 : decode cX0_allNeighbours 26 = .ok (.getfield 13, 3) := by decide +kernel
theorem dX0_allNeighbours_29 : decode cX0_allNeighbours 29 = .ok (.iconst (-1), 1) := by decide +kernel
theorem dX0_allNeighbours_30 : decode cX0_allNeighbours 30 = .ok (.ixor, 1) := by decide +kernel
theorem dX0_allNeighbours_31 : decode cX0_allNeighbours 31 = .ok (.iand, 1) := by decide +kernel
theorem dX0_allNeighbours_32 : decode cX0_allNeighbours 32 = .ok (.ifCond .ne 12, 3) := by decide +kernel
theorem dX0_allNeighbours_35 : decode cX0_allNeighbours 35 = .ok (.iload_n 1, 1) := by decide +kernel
theorem dX0_allNeighbours_36 : decode cX0_allNeighbours 36 = .ok (.iload_n 2, 1) := by decide +kernel
theorem dX0_allNeighbours_37 : decode cX0_allNeighbours 37 = .ok (.invokestatic 77, 3) := by decide +kernel
theorem dX0_allNeighbours_40 : decode cX0_allNeighbours 40 = .ok (.invokestatic 92, 3) := by decide +kernel
theorem dX0_allNeighbours_43 : decode cX0_allNeighbours 43 = .ok (.istore_n 1, 1) := by decide +kernel
theorem dX0_allNeighbours_44 : decode cX0_allNeighbours 44 = .ok (.iinc 2 1, 3) := by decide +kernel
theorem dX0_allNeighbours_47 : decode cX0_allNeighbours 47 = .ok (.goto (-39), 3) := by decide +kernel
theorem dX0_allNeighbours_50 : decode cX0_allNeighbours 50 = .ok (.iload_n 1, 1) := by decide +kernel
theorem dX0_allNeighbours_51 : decode cX0_allNeighbours 51 = .ok (.ireturn, 1) := by decide +kernel
set_option maxRecDepth 20000 in
theorem ggX0_tint_X0_checkCountry : GoodIn wsX0_tint wsX0_checkCountry := goodIn_ca (goodIn_r _ [5, 6, 7] (by decide +kernel) (by decide +kernel)) (goodIn_sub (fun _ h => List.mem_cons_of_mem _ (List.mem_append_left _ (List.mem_append_right _ h))) (by decide +kernel))
set_option maxRecDepth 20000 in
theorem gX0_tint_X0_checkCountry : GoodIn wsX0_tint (va_wsS RX0 82 yX0_checkCountry wsX0_checkCountry) := goodIn_app (goodIn_of _ (by decide +kernel)) ggX0_tint_X0_checkCountry
set_option maxRecDepth 20000 in
theorem ggX0_tint_X0_checkTint : GoodIn wsX0_tint wsX0_checkTint := goodIn_ca (goodIn_r _ [10, 11, 12] (by decide +kernel) (by decide +kernel)) (goodIn_sub (fun _ h => List.mem_cons_of_mem _ (List.mem_append_right _ h)) (by decide +kernel))
set_option maxRecDepth 20000 in
theorem gX0_tint_X0_checkTint : GoodIn wsX0_tint (va_wsS RX0 121 yX0_checkTint wsX0_checkTint) := goodIn_app (goodIn_of _ (by decide +kernel)) ggX0_tint_X0_checkTint
theorem dX0_tint_0 : decode cX0_tint 0 = .ok (.iload_n 1, 1) := by decide +kernel
theorem dX0_tint_1 : decode cX0_tint 1 = .ok (.invokestatic 82, 3) := by decide +kernel
theorem dX0_tint_4 : decode cX0_tint 4 = .ok (.iload_n 2, 1) := by decide +kernel
theorem dX0_tint_5 : decode cX0_tint 5 = .ok (.ifCond .eq 7, 3) := by decide +kernel
theorem dX0_tint_8 : decode cX0_tint 8 = .ok (.iload_n 2, 1) := by decide +kernel
theorem dX0_tint_9 : decode cX0_tint 9 = .ok (.invokestatic 121, 3) := by decide +kernel
theorem dX0_tint_12 : decode cX0_tint 12 = .ok (.aload_n 0, 1) := by decide +kernel
theorem dX0_tint_13 : decode cX0_tint 13 = .ok (.getfield 21, 3) := by decide +kernel
theorem dX0_tint_16 : decode cX0_tint 16 = .ok (.iload_n 1, 1) := by decide +kernel
theorem dX0_tint_17 : decode cX0_tint 17 = .ok (.iaload, 1) := by decide +kernel
theorem dX0_tint_18 : decode cX0_tint 18 = .ok (.istore_n 3, 1) := by decide +kernel
theorem dX0_tint_19 : decode cX0_tint 19 = .ok (.aload_n 0, 1) := by decide +kernel
theorem dX0_tint_20 : decode cX0_tint 20 = .ok (.getfield 21, 3) := by decide +kernel
theorem dX0_tint_23 : decode cX0_tint 23 = .ok (.iload_n 1, 1) := by decide +kernel
theorem dX0_tint_24 : decode cX0_tint 24 = .ok (.iload_n 2, 1) := by decide +kernel
theorem dX0_tint_25 : decode cX0_tint 25 = .ok (.iastore, 1) := by decide +kernel
theorem dX0_tint_26 : decode cX0_tint 26 = .ok (.iload_n 3, 1) := by decide +kernel
theorem dX0_tint_27 : decode cX0_tint 27 = .ok (.ireturn, 1) := by decide +kernel
set_option maxRecDepth 20000 in
theorem ggX0_tintOf_X0_checkCountry : GoodIn wsX0_tintOf wsX0_checkCountry := goodIn_ca (goodIn_r _ [5, 6, 7] (by decide +kernel) (by decide +kernel)) (goodIn_sub (fun _ h => List.mem_cons_of_mem _ (List.mem_append_right _ h)) (by decide +kernel))
set_option maxRecDepth 20000 in
theorem gX0_tintOf_X0_checkCountry : GoodIn wsX0_tintOf (va_wsS RX0 82 yX0_checkCountry wsX0_checkCountry) := goodIn_app (goodIn_of _ (by decide +kernel)) ggX0_tintOf_X0_checkCountry
theorem dX0_tintOf_0 : decode cX0_tintOf 0 = .ok (.iload_n 1, 1) := by decide +kernel
theorem dX0_tintOf_1 : decode cX0_tintOf 1 = .ok (.invokestatic 82, 3) := by decide +kernel
theorem dX0_tintOf_4 : decode cX0_tintOf 4 = .ok (.aload_n 0, 1) := by decide +kernel
theorem dX0_tintOf_5 : decode cX0_tintOf 5 = .ok (.getfield 21, 3) := by decide +kernel
theorem dX0_tintOf_8 : decode cX0_tintOf 8 = .ok (.iload_n 1, 1) := by decide +kernel
theorem dX0_tintOf_9 : decode cX0_tintOf 9 = .ok (.iaload, 1) := by decide +kernel
theorem dX0_tintOf_10 : decode cX0_tintOf 10 = .ok (.ireturn, 1) := by decide +kernel
set_option maxRecDepth 20000 in
theorem ggX0_conflicts_X0_wearing : GoodIn wsX0_conflicts wsX0_wearing := goodIn_r _ [7, 1, 15, 16, 17, 18, 19, 20, 21, 22] (by decide +kernel) (by decide +kernel)
set_option maxRecDepth 20000 in
theorem gX0_conflicts_X0_wearing : GoodIn wsX0_conflicts (wsV RX0 124 RX0 yX0_wearing wsX0_wearing) := goodIn_app (goodIn_of _ (by decide +kernel)) ggX0_conflicts_X0_wearing
set_option maxRecDepth 20000 in
theorem ggX0_conflicts_J6_bitCount_0f7a4 : GoodIn wsX0_conflicts wsJ6_bitCount_0f7a4 := goodIn_r _ [11, 12, 13, 14] (by decide +kernel) (by decide +kernel)
set_option maxRecDepth 20000 in
theorem gX0_conflicts_J6_bitCount_0f7a4 : GoodIn wsX0_conflicts (va_wsS RX0 77 yJ6_bitCount_0f7a4 wsJ6_bitCount_0f7a4) := goodIn_app (goodIn_of _ (by decide +kernel)) ggX0_conflicts_J6_bitCount_0f7a4
theorem dX0_conflicts_0 : decode cX0_conflicts 0 = .ok (.iconst 0, 1) := by decide +kernel
theorem dX0_conflicts_1 : decode cX0_conflicts 1 = .ok (.istore_n 1, 1) := by decide +kernel
theorem dX0_conflicts_2 : decode cX0_conflicts 2 = .ok (.iconst 0, 1) := by decide +kernel
theorem dX0_conflicts_3 : decode cX0_conflicts 3 = .ok (.istore_n 2, 1) := by decide +kernel
theorem dX0_conflicts_4 : decode cX0_conflicts 4 = .ok (.iload_n 2, 1) := by decide +kernel
theorem dX0_conflicts_5 : decode cX0_conflicts 5 = .ok (.bipush 10, 2) := by decide +kernel
theorem dX0_conflicts_7 : decode cX0_conflicts 7 = .ok (.if_icmp .ge 41, 3) := by decide +kernel
theorem dX0_conflicts_10 : decode cX0_conflicts 10 = .ok (.aload_n 0, 1) := by decide +kernel
theorem dX0_conflicts_11 : decode cX0_conflicts 11 = .ok (.getfield 21, 3) := by decide +kernel
theorem dX0_conflicts_14 : decode cX0_conflicts 14 = .ok (.iload_n 2, 1) := by decide +kernel
theorem dX0_conflicts_15 : decode cX0_conflicts 15 = .ok (.iaload, 1) := by decide +kernel
theorem dX0_conflicts_16 : decode cX0_conflicts 16 = .ok (.ifCond .eq 26, 3) := by decide +kernel
theorem dX0_conflicts_19 : decode cX0_conflicts 19 = .ok (.iload_n 1, 1) := by decide +kernel
theorem dX0_conflicts_20 : decode cX0_conflicts 20 = .ok (.aload_n 0, 1) := by decide +kernel
theorem dX0_conflicts_21 : decode cX0_conflicts 21 = .ok (.getfield 17, 3) := by decide +kernel
theorem dX0_conflicts_24 : decode cX0_conflicts 24 = .ok (.iload_n 2, 1) := by decide +kernel
theorem dX0_conflicts_25 : decode cX0_conflicts 25 = .ok (.iaload, 1) := by decide +kernel
theorem dX0_conflicts_26 : decode cX0_conflicts 26 = .ok (.aload_n 0, 1) := by decide +kernel
theorem dX0_conflicts_27 : decode cX0_conflicts 27 = .ok (.aload_n 0, 1) := by decide +kernel
theorem dX0_conflicts_28 : decode cX0_conflicts 28 = .ok (.getfield 21, 3) := by decide +kernel
theorem dX0_conflicts_31 : decode cX0_conflicts 31 = .ok (.iload_n 2, 1) := by decide +kernel
theorem dX0_conflicts_32 : decode cX0_conflicts 32 = .ok (.iaload, 1) := by decide +kernel
theorem dX0_conflicts_33 : decode cX0_conflicts 33 = .ok (.invokevirtual 124, 3) := by decide +kernel
theorem dX0_conflicts_36 : decode cX0_conflicts 36 = .ok (.iand, 1) := by decide +kernel
theorem dX0_conflicts_37 : decode cX0_conflicts 37 = .ok (.invokestatic 77, 3) := by decide +kernel
theorem dX0_conflicts_40 : decode cX0_conflicts 40 = .ok (.iadd, 1) := by decide +kernel
theorem dX0_conflicts_41 : decode cX0_conflicts 41 = .ok (.istore_n 1, 1) := by decide +kernel
theorem dX0_conflicts_42 : decode cX0_conflicts 42 = .ok (.iinc 2 1, 3) := by decide +kernel
theorem dX0_conflicts_45 : decode cX0_conflicts 45 = .ok (.goto (-41), 3) := by decide +kernel
theorem dX0_conflicts_48 : decode cX0_conflicts 48 = .ok (.iload_n 1, 1) := by decide +kernel
theorem dX0_conflicts_49 : decode cX0_conflicts 49 = .ok (.iconst 1, 1) := by decide +kernel
theorem dX0_conflicts_50 : decode cX0_conflicts 50 = .ok (.ishr, 1) := by decide +kernel
theorem dX0_conflicts_51 : decode cX0_conflicts 51 = .ok (.ireturn, 1) := by decide +kernel
set_option maxRecDepth 20000 in
theorem ggX0_isTinted_X0_wearing : GoodIn wsX0_isTinted wsX0_wearing := goodIn_r _ [6, 7, 20, 21, 22, 23, 24, 25, 26, 27] (by decide +kernel) (by decide +kernel)
set_option maxRecDepth 20000 in
theorem gX0_isTinted_X0_wearing : GoodIn wsX0_isTinted (wsV RX0 124 RX0 yX0_wearing wsX0_wearing) := goodIn_app (goodIn_of _ (by decide +kernel)) ggX0_isTinted_X0_wearing
set_option maxRecDepth 20000 in
theorem ggX0_isTinted_X0_conflicts : GoodIn wsX0_isTinted wsX0_conflicts := goodIn_r _ [11, 7, 12, 2, 3, 4, 5, 6, 13, 14, 15, 16, 17, 18, 19, 20, 21, 22, 23, 24, 25, 26, 27] (by decide +kernel) (by decide +kernel)
set_option maxRecDepth 20000 in
theorem gX0_isTinted_X0_conflicts : GoodIn wsX0_isTinted (wsV RX0 127 RX0 yX0_conflicts wsX0_conflicts) := goodIn_app (goodIn_of _ (by decide +kernel)) ggX0_isTinted_X0_conflicts
theorem dX0_isTinted_0 : decode cX0_isTinted 0 = .ok (.aload_n 0, 1) := by decide +kernel
theorem dX0_isTinted_1 : decode cX0_isTinted 1 = .ok (.getfield 13, 3) := by decide +kernel
theorem dX0_isTinted_4 : decode cX0_isTinted 4 = .ok (.aload_n 0, 1) := by decide +kernel
theorem dX0_isTinted_5 : decode cX0_isTinted 5 = .ok (.iconst 0, 1) := by decide +kernel
theorem dX0_isTinted_6 : decode cX0_isTinted 6 = .ok (.invokevirtual 124, 3) := by decide +kernel
theorem dX0_isTinted_9 : decode cX0_isTinted 9 = .ok (.iand, 1) := by decide +kernel
theorem dX0_isTinted_10 : decode cX0_isTinted 10 = .ok (.ifCond .ne 14, 3) := by decide +kernel
theorem dX0_isTinted_13 : decode cX0_isTinted 13 = .ok (.aload_n 0, 1) := by decide +kernel
theorem dX0_isTinted_14 : decode cX0_isTinted 14 = .ok (.invokevirtual 127, 3) := by decide +kernel
theorem dX0_isTinted_17 : decode cX0_isTinted 17 = .ok (.ifCond .ne 7, 3) := by decide +kernel
theorem dX0_isTinted_20 : decode cX0_isTinted 20 = .ok (.iconst 1, 1) := by decide +kernel
theorem dX0_isTinted_21 : decode cX0_isTinted 21 = .ok (.goto 4, 3) := by decide +kernel
theorem dX0_isTinted_24 : decode cX0_isTinted 24 = .ok (.iconst 0, 1) := by decide +kernel
theorem dX0_isTinted_25 : decode cX0_isTinted 25 = .ok (.ireturn, 1) := by decide +kernel
set_option maxRecDepth 20000 in
theorem ggX0_leastFree_X0_checkCountry : GoodIn wsX0_leastFree wsX0_checkCountry := goodIn_ca (goodIn_r _ [5, 6, 7] (by decide +kernel) (by decide +kernel)) (goodIn_sub (fun _ h => List.mem_cons_of_mem _ (List.mem_append_right _ h)) (by decide +kernel))
set_option maxRecDepth 20000 in
theorem gX0_leastFree_X0_checkCountry : GoodIn wsX0_leastFree (va_wsS RX0 82 yX0_checkCountry wsX0_checkCountry) := goodIn_app (goodIn_of _ (by decide +kernel)) ggX0_leastFree_X0_checkCountry
set_option maxRecDepth 20000 in
theorem ggX0_leastFree_X0_leastFreeBeside : GoodIn wsX0_leastFree wsX0_leastFreeBeside := goodIn_r _ [11, 12, 13, 14, 4, 15, 16, 17, 18, 19, 20, 21, 22, 23, 24] (by decide +kernel) (by decide +kernel)
set_option maxRecDepth 20000 in
theorem gX0_leastFree_X0_leastFreeBeside : GoodIn wsX0_leastFree (wsV RX0 131 RX0 yX0_leastFreeBeside wsX0_leastFreeBeside) := goodIn_app (goodIn_of _ (by decide +kernel)) ggX0_leastFree_X0_leastFreeBeside
theorem dX0_leastFree_0 : decode cX0_leastFree 0 = .ok (.iload_n 1, 1) := by decide +kernel
theorem dX0_leastFree_1 : decode cX0_leastFree 1 = .ok (.invokestatic 82, 3) := by decide +kernel
theorem dX0_leastFree_4 : decode cX0_leastFree 4 = .ok (.aload_n 0, 1) := by decide +kernel
theorem dX0_leastFree_5 : decode cX0_leastFree 5 = .ok (.aload_n 0, 1) := by decide +kernel
theorem dX0_leastFree_6 : decode cX0_leastFree 6 = .ok (.getfield 17, 3) := by decide +kernel
theorem dX0_leastFree_9 : decode cX0_leastFree 9 = .ok (.iload_n 1, 1) := by decide +kernel
theorem dX0_leastFree_10 : decode cX0_leastFree 10 = .ok (.iaload, 1) := by decide +kernel
theorem dX0_leastFree_11 : decode cX0_leastFree 11 = .ok (.invokevirtual 131, 3) := by decide +kernel
theorem dX0_leastFree_14 : decode cX0_leastFree 14 = .ok (.ireturn, 1) := by decide +kernel
set_option maxRecDepth 20000 in
theorem ggX0_chain_X0_checkCountry : GoodIn wsX0_chain wsX0_checkCountry := goodIn_ca (goodIn_r _ [4, 5, 6] (by decide +kernel) (by decide +kernel)) (goodIn_sub (fun _ h => List.mem_cons_of_mem _ (List.mem_append_left _ (List.mem_append_left _ (List.mem_append_right _ h)))) (by decide +kernel))
set_option maxRecDepth 20000 in
theorem gX0_chain_X0_checkCountry : GoodIn wsX0_chain (va_wsS RX0 82 yX0_checkCountry wsX0_checkCountry) := goodIn_app (goodIn_of _ (by decide +kernel)) ggX0_chain_X0_checkCountry
set_option maxRecDepth 20000 in
theorem ggX0_chain_X0_checkTint : GoodIn wsX0_chain wsX0_checkTint := goodIn_ca (goodIn_r _ [9, 10, 11] (by decide +kernel) (by decide +kernel)) (goodIn_sub (fun _ h => List.mem_cons_of_mem _ (List.mem_append_left _ (List.mem_append_right _ h))) (by decide +kernel))
set_option maxRecDepth 20000 in
theorem gX0_chain_X0_checkTint : GoodIn wsX0_chain (va_wsS RX0 121 yX0_checkTint wsX0_checkTint) := goodIn_app (goodIn_of _ (by decide +kernel)) ggX0_chain_X0_checkTint
set_option maxRecDepth 20000 in
theorem ggX0_chain_X0_checkTinted : GoodIn wsX0_chain wsX0_checkTinted := goodIn_ca (goodIn_r _ [15, 16, 17, 18, 19, 20, 21, 3, 22, 39, 40, 41, 42, 43, 44, 45, 46] (by decide +kernel) (by decide +kernel)) (goodIn_sub (fun _ h => List.mem_cons_of_mem _ (List.mem_append_right _ h)) (by decide +kernel))
set_option maxRecDepth 20000 in
theorem gX0_chain_X0_checkTinted : GoodIn wsX0_chain (wsV RX0 134 RX0 yX0_checkTinted wsX0_checkTinted) := goodIn_app (goodIn_of _ (by decide +kernel)) ggX0_chain_X0_checkTinted
set_option maxRecDepth 20000 in
theorem ggX0_chain_X0_chainOf : GoodIn wsX0_chain wsX0_chainOf := goodIn_r _ [26, 18, 19, 27, 28, 29, 30, 3, 31, 20, 21, 22, 39, 40, 41, 42, 43, 44, 45, 46] (by decide +kernel) (by decide +kernel)
set_option maxRecDepth 20000 in
theorem gX0_chain_X0_chainOf : GoodIn wsX0_chain (wsV RX0 137 RX0 yX0_chainOf wsX0_chainOf) := goodIn_app (goodIn_of _ (by decide +kernel)) ggX0_chain_X0_chainOf
set_option maxRecDepth 20000 in
theorem ggX0_chain_J6_bitCount_0f7a4 : GoodIn wsX0_chain wsJ6_bitCount_0f7a4 := goodIn_r _ [35, 36, 37, 38] (by decide +kernel) (by decide +kernel)
set_option maxRecDepth 20000 in
theorem gX0_chain_J6_bitCount_0f7a4 : GoodIn wsX0_chain (va_wsS RX0 77 yJ6_bitCount_0f7a4 wsJ6_bitCount_0f7a4) := goodIn_app (goodIn_of _ (by decide +kernel)) ggX0_chain_J6_bitCount_0f7a4
theorem dX0_chain_0 : decode cX0_chain 0 = .ok (.iload_n 1, 1) := by decide +kernel
theorem dX0_chain_1 : decode cX0_chain 1 = .ok (.invokestatic 82, 3) := by decide +kernel
theorem dX0_chain_4 : decode cX0_chain 4 = .ok (.iload_n 2, 1) := by decide +kernel
theorem dX0_chain_5 : decode cX0_chain 5 = .ok (.invokestatic 121, 3) := by decide +kernel
theorem dX0_chain_8 : decode cX0_chain 8 = .ok (.aload_n 0, 1) := by decide +kernel
theorem dX0_chain_9 : decode cX0_chain 9 = .ok (.iload_n 1, 1) := by decide +kernel
theorem dX0_chain_10 : decode cX0_chain 10 = .ok (.invokevirtual 134, 3) := by decide +kernel
theorem dX0_chain_13 : decode cX0_chain 13 = .ok (.aload_n 0, 1) := by decide +kernel
theorem dX0_chain_14 : decode cX0_chain 14 = .ok (.iload_n 1, 1) := by decide +kernel
theorem dX0_chain_15 : decode cX0_chain 15 = .ok (.iload_n 2, 1) := by decide +kernel
theorem dX0_chain_16 : decode cX0_chain 16 = .ok (.invokevirtual 137, 3) := by decide +kernel
theorem dX0_chain_19 : decode cX0_chain 19 = .ok (.invokestatic 77, 3) := by decide +kernel
theorem dX0_chain_22 : decode cX0_chain 22 = .ok (.ireturn, 1) := by decide +kernel
set_option maxRecDepth 20000 in
theorem ggX0_exchange_X0_checkCountry : GoodIn wsX0_exchange wsX0_checkCountry := goodIn_ca (goodIn_r _ [5, 6, 7] (by decide +kernel) (by decide +kernel)) (goodIn_sub (fun _ h => List.mem_cons_of_mem _ (List.mem_append_left _ (List.mem_append_left _ (List.mem_append_right _ h)))) (by decide +kernel))
set_option maxRecDepth 20000 in
theorem gX0_exchange_X0_checkCountry : GoodIn wsX0_exchange (va_wsS RX0 82 yX0_checkCountry wsX0_checkCountry) := goodIn_app (goodIn_of _ (by decide +kernel)) ggX0_exchange_X0_checkCountry
set_option maxRecDepth 20000 in
theorem ggX0_exchange_X0_checkTint : GoodIn wsX0_exchange wsX0_checkTint := goodIn_ca (goodIn_r _ [10, 11, 12] (by decide +kernel) (by decide +kernel)) (goodIn_sub (fun _ h => List.mem_cons_of_mem _ (List.mem_append_left _ (List.mem_append_right _ h))) (by decide +kernel))
set_option maxRecDepth 20000 in
theorem gX0_exchange_X0_checkTint : GoodIn wsX0_exchange (va_wsS RX0 121 yX0_checkTint wsX0_checkTint) := goodIn_app (goodIn_of _ (by decide +kernel)) ggX0_exchange_X0_checkTint
set_option maxRecDepth 20000 in
theorem ggX0_exchange_X0_checkTinted : GoodIn wsX0_exchange wsX0_checkTinted := goodIn_ca (goodIn_r _ [16, 17, 18, 19, 1, 20, 21, 4, 22, 39, 40, 41, 42, 43, 44, 45, 46] (by decide +kernel) (by decide +kernel)) (goodIn_sub (fun _ h => List.mem_cons_of_mem _ (List.mem_append_right _ h)) (by decide +kernel))
set_option maxRecDepth 20000 in
theorem gX0_exchange_X0_checkTinted : GoodIn wsX0_exchange (wsV RX0 134 RX0 yX0_checkTinted wsX0_checkTinted) := goodIn_app (goodIn_of _ (by decide +kernel)) ggX0_exchange_X0_checkTinted
set_option maxRecDepth 20000 in
theorem ggX0_exchange_X0_chainOf : GoodIn wsX0_exchange wsX0_chainOf := goodIn_r _ [26, 19, 1, 27, 28, 29, 30, 4, 31, 20, 21, 22, 39, 40, 41, 42, 43, 44, 45, 46] (by decide +kernel) (by decide +kernel)
set_option maxRecDepth 20000 in
theorem gX0_exchange_X0_chainOf : GoodIn wsX0_exchange (wsV RX0 137 RX0 yX0_chainOf wsX0_chainOf) := goodIn_app (goodIn_of _ (by decide +kernel)) ggX0_exchange_X0_chainOf
set_option maxRecDepth 20000 in
theorem ggX0_exchange_X0_has : GoodIn wsX0_exchange wsX0_has := goodIn_r _ [22] (by decide +kernel) (by decide +kernel)
set_option maxRecDepth 20000 in
theorem gX0_exchange_X0_has : GoodIn wsX0_exchange (va_wsS RX0 140 yX0_has wsX0_has) := goodIn_app (goodIn_of _ (by decide +kernel)) ggX0_exchange_X0_has
set_option maxRecDepth 20000 in
theorem ggX0_exchange_J6_bitCount_0f7a4 : GoodIn wsX0_exchange wsJ6_bitCount_0f7a4 := goodIn_r _ [35, 36, 37, 38] (by decide +kernel) (by decide +kernel)
set_option maxRecDepth 20000 in
theorem gX0_exchange_J6_bitCount_0f7a4 : GoodIn wsX0_exchange (va_wsS RX0 77 yJ6_bitCount_0f7a4 wsJ6_bitCount_0f7a4) := goodIn_app (goodIn_of _ (by decide +kernel)) ggX0_exchange_J6_bitCount_0f7a4
theorem dX0_exchange_0 : decode cX0_exchange 0 = .ok (.iload_n 1, 1) := by decide +kernel
theorem dX0_exchange_1 : decode cX0_exchange 1 = .ok (.invokestatic 82, 3) := by decide +kernel
theorem dX0_exchange_4 : decode cX0_exchange 4 = .ok (.iload_n 2, 1) := by decide +kernel
theorem dX0_exchange_5 : decode cX0_exchange 5 = .ok (.invokestatic 121, 3) := by decide +kernel
theorem dX0_exchange_8 : decode cX0_exchange 8 = .ok (.aload_n 0, 1) := by decide +kernel
theorem dX0_exchange_9 : decode cX0_exchange 9 = .ok (.iload_n 1, 1) := by decide +kernel
theorem dX0_exchange_10 : decode cX0_exchange 10 = .ok (.invokevirtual 134, 3) := by decide +kernel
theorem dX0_exchange_13 : decode cX0_exchange 13 = .ok (.aload_n 0, 1) := by decide +kernel
theorem dX0_exchange_14 : decode cX0_exchange 14 = .ok (.getfield 21, 3) := by decide +kernel
theorem dX0_exchange_17 : decode cX0_exchange 17 = .ok (.iload_n 1, 1) := by decide +kernel
theorem dX0_exchange_18 : decode cX0_exchange 18 = .ok (.iaload, 1) := by decide +kernel
theorem dX0_exchange_19 : decode cX0_exchange 19 = .ok (.istore_n 3, 1) := by decide +kernel
theorem dX0_exchange_20 : decode cX0_exchange 20 = .ok (.iload_n 3, 1) := by decide +kernel
theorem dX0_exchange_21 : decode cX0_exchange 21 = .ok (.iload_n 2, 1) := by decide +kernel
theorem dX0_exchange_22 : decode cX0_exchange 22 = .ok (.if_icmp .ne 5, 3) := by decide +kernel
theorem dX0_exchange_25 : decode cX0_exchange 25 = .ok (.iconst 0, 1) := by decide +kernel
theorem dX0_exchange_26 : decode cX0_exchange 26 = .ok (.ireturn, 1) := by decide +kernel
theorem dX0_exchange_27 : decode cX0_exchange 27 = .ok (.aload_n 0, 1) := by decide +kernel
theorem dX0_exchange_28 : decode cX0_exchange 28 = .ok (.iload_n 1, 1) := by decide +kernel
theorem dX0_exchange_29 : decode cX0_exchange 29 = .ok (.iload_n 2, 1) := by decide +kernel
theorem dX0_exchange_30 : decode cX0_exchange 30 = .ok (.invokevirtual 137, 3) := by decide +kernel
theorem dX0_exchange_33 : decode cX0_exchange 33 = .ok (.istore 4, 2) := by decide +kernel
theorem dX0_exchange_35 : decode cX0_exchange 35 = .ok (.iconst 0, 1) := by decide +kernel
theorem dX0_exchange_36 : decode cX0_exchange 36 = .ok (.istore 5, 2) := by decide +kernel
theorem dX0_exchange_38 : decode cX0_exchange 38 = .ok (.iload 5, 2) := by decide +kernel
theorem dX0_exchange_40 : decode cX0_exchange 40 = .ok (.bipush 10, 2) := by decide +kernel
theorem dX0_exchange_42 : decode cX0_exchange 42 = .ok (.if_icmp .ge 42, 3) := by decide +kernel
theorem dX0_exchange_45 : decode cX0_exchange 45 = .ok (.iload 4, 2) := by decide +kernel
theorem dX0_exchange_47 : decode cX0_exchange 47 = .ok (.iload 5, 2) := by decide +kernel
theorem dX0_exchange_49 : decode cX0_exchange 49 = .ok (.invokestatic 140, 3) := by decide +kernel
theorem dX0_exchange_52 : decode cX0_exchange 52 = .ok (.ifCond .eq 26, 3) := by decide +kernel
theorem dX0_exchange_55 : decode cX0_exchange 55 = .ok (.aload_n 0, 1) := by decide +kernel
theorem dX0_exchange_56 : decode cX0_exchange 56 = .ok (.getfield 21, 3) := by decide +kernel
theorem dX0_exchange_59 : decode cX0_exchange 59 = .ok (.iload 5, 2) := by decide +kernel
theorem dX0_exchange_61 : decode cX0_exchange 61 = .ok (.aload_n 0, 1) := by decide +kernel
theorem dX0_exchange_62 : decode cX0_exchange 62 = .ok (.getfield 21, 3) := by decide +kernel
theorem dX0_exchange_65 : decode cX0_exchange 65 = .ok (.iload 5, 2) := by decide +kernel
theorem dX0_exchange_67 : decode cX0_exchange 67 = .ok (.iaload, 1) := by decide +kernel
theorem dX0_exchange_68 : decode cX0_exchange 68 = .ok (.iload_n 3, 1) := by decide +kernel
theorem dX0_exchange_69 : decode cX0_exchange 69 = .ok (.if_icmp .ne 7, 3) := by decide +kernel
theorem dX0_exchange_72 : decode cX0_exchange 72 = .ok (.iload_n 2, 1) := by decide +kernel
theorem dX0_exchange_73 : decode cX0_exchange 73 = .ok (.goto 4, 3) := by decide +kernel
theorem dX0_exchange_76 : decode cX0_exchange 76 = .ok (.iload_n 3, 1) := by decide +kernel
theorem dX0_exchange_77 : decode cX0_exchange 77 = .ok (.iastore, 1) := by decide +kernel
theorem dX0_exchange_78 : decode cX0_exchange 78 = .ok (.iinc 5 1, 3) := by decide +kernel
theorem dX0_exchange_81 : decode cX0_exchange 81 = .ok (.goto (-43), 3) := by decide +kernel
theorem dX0_exchange_84 : decode cX0_exchange 84 = .ok (.iload 4, 2) := by decide +kernel
theorem dX0_exchange_86 : decode cX0_exchange 86 = .ok (.invokestatic 77, 3) := by decide +kernel
theorem dX0_exchange_89 : decode cX0_exchange 89 = .ok (.ireturn, 1) := by decide +kernel
set_option maxRecDepth 20000 in
theorem ggX0_tintInOrder_X0_has : GoodIn wsX0_tintInOrder wsX0_has := goodIn_r _ [10] (by decide +kernel) (by decide +kernel)
set_option maxRecDepth 20000 in
theorem gX0_tintInOrder_X0_has : GoodIn wsX0_tintInOrder (va_wsS RX0 140 yX0_has wsX0_has) := goodIn_app (goodIn_of _ (by decide +kernel)) ggX0_tintInOrder_X0_has
set_option maxRecDepth 20000 in
theorem ggX0_tintInOrder_X0_giveLeastFree : GoodIn wsX0_tintInOrder wsX0_giveLeastFree := goodIn_r _ [14, 2, 15, 3, 4, 5, 6, 7, 8, 9, 10, 16, 17, 18, 19, 20, 21, 22, 23, 35, 36, 37, 38, 39, 40, 41, 42] (by decide +kernel) (by decide +kernel)
set_option maxRecDepth 20000 in
theorem gX0_tintInOrder_X0_giveLeastFree : GoodIn wsX0_tintInOrder (wsV RX0 144 RX0 yX0_giveLeastFree wsX0_giveLeastFree) := goodIn_app (goodIn_of _ (by decide +kernel)) ggX0_tintInOrder_X0_giveLeastFree
set_option maxRecDepth 20000 in
theorem ggX0_tintInOrder_X0_withNeighbours : GoodIn wsX0_tintInOrder wsX0_withNeighbours := goodIn_r _ [27, 1, 15, 7, 8, 9, 10, 28, 29, 30, 31, 32, 33, 34, 35, 36, 37, 38, 39, 40, 41, 42] (by decide +kernel) (by decide +kernel)
set_option maxRecDepth 20000 in
theorem gX0_tintInOrder_X0_withNeighbours : GoodIn wsX0_tintInOrder (wsV RX0 147 RX0 yX0_withNeighbours wsX0_withNeighbours) := goodIn_app (goodIn_of _ (by decide +kernel)) ggX0_tintInOrder_X0_withNeighbours
theorem dX0_tintInOrder_0 : decode cX0_tintInOrder 0 = .ok (.iconst 0, 1) := by decide +kernel
theorem dX0_tintInOrder_1 : decode cX0_tintInOrder 1 = .ok (.istore_n 2, 1) := by decide +kernel
theorem dX0_tintInOrder_2 : decode cX0_tintInOrder 2 = .ok (.iload_n 2, 1) := by decide +kernel
theorem dX0_tintInOrder_3 : decode cX0_tintInOrder 3 = .ok (.bipush 10, 2) := by decide +kernel
theorem dX0_tintInOrder_5 : decode cX0_tintInOrder 5 = .ok (.if_icmp .ge 27, 3) := by decide +kernel
theorem dX0_tintInOrder_8 : decode cX0_tintInOrder 8 = .ok (.aload_n 0, 1) := by decide +kernel
theorem dX0_tintInOrder_9 : decode cX0_tintInOrder 9 = .ok (.getfield 13, 3) := by decide +kernel
theorem dX0_tintInOrder_12 : decode cX0_tintInOrder 12 = .ok (.iload_n 2, 1) := by decide +kernel
theorem dX0_tintInOrder_13 : decode cX0_tintInOrder 13 = .ok (.invokestatic 140, 3) := by decide +kernel
theorem dX0_tintInOrder_16 : decode cX0_tintInOrder 16 = .ok (.ifCond .eq 10, 3) := by decide +kernel
theorem dX0_tintInOrder_19 : decode cX0_tintInOrder 19 = .ok (.aload_n 0, 1) := by decide +kernel
theorem dX0_tintInOrder_20 : decode cX0_tintInOrder 20 = .ok (.getfield 21, 3) := by decide +kernel
theorem dX0_tintInOrder_23 : decode cX0_tintInOrder 23 = .ok (.iload_n 2, 1) := by decide +kernel
theorem dX0_tintInOrder_24 : decode cX0_tintInOrder 24 = .ok (.iconst 0, 1) := by decide +kernel
theorem dX0_tintInOrder_25 : decode cX0_tintInOrder 25 = .ok (.iastore, 1) := by decide +kernel
theorem dX0_tintInOrder_26 : decode cX0_tintInOrder 26 = .ok (.iinc 2 1, 3) := by decide +kernel
theorem dX0_tintInOrder_29 : decode cX0_tintInOrder 29 = .ok (.goto (-27), 3) := by decide +kernel
theorem dX0_tintInOrder_32 : decode cX0_tintInOrder 32 = .ok (.iload_n 1, 1) := by decide +kernel
theorem dX0_tintInOrder_33 : decode cX0_tintInOrder 33 = .ok (.ifCond .ne 12, 3) := by decide +kernel
theorem dX0_tintInOrder_36 : decode cX0_tintInOrder 36 = .ok (.aload_n 0, 1) := by decide +kernel
theorem dX0_tintInOrder_37 : decode cX0_tintInOrder 37 = .ok (.aload_n 0, 1) := by decide +kernel
theorem dX0_tintInOrder_38 : decode cX0_tintInOrder 38 = .ok (.getfield 13, 3) := by decide +kernel
theorem dX0_tintInOrder_41 : decode cX0_tintInOrder 41 = .ok (.invokevirtual 144, 3) := by decide +kernel
theorem dX0_tintInOrder_44 : decode cX0_tintInOrder 44 = .ok (.ireturn, 1) := by decide +kernel
theorem dX0_tintInOrder_45 : decode cX0_tintInOrder 45 = .ok (.iconst 0, 1) := by decide +kernel
theorem dX0_tintInOrder_46 : decode cX0_tintInOrder 46 = .ok (.istore_n 2, 1) := by decide +kernel
theorem dX0_tintInOrder_47 : decode cX0_tintInOrder 47 = .ok (.bipush 9, 2) := by decide +kernel
theorem dX0_tintInOrder_49 : decode cX0_tintInOrder 49 = .ok (.istore_n 3, 1) := by decide +kernel
theorem dX0_tintInOrder_50 : decode cX0_tintInOrder 50 = .ok (.iload_n 3, 1) := by decide +kernel
theorem dX0_tintInOrder_51 : decode cX0_tintInOrder 51 = .ok (.ifCond .lt 23, 3) := by decide +kernel
theorem dX0_tintInOrder_54 : decode cX0_tintInOrder 54 = .ok (.iload_n 2, 1) := by decide +kernel
theorem dX0_tintInOrder_55 : decode cX0_tintInOrder 55 = .ok (.aload_n 0, 1) := by decide +kernel
theorem dX0_tintInOrder_56 : decode cX0_tintInOrder 56 = .ok (.aload_n 0, 1) := by decide +kernel
theorem dX0_tintInOrder_57 : decode cX0_tintInOrder 57 = .ok (.iload_n 3, 1) := by decide +kernel
end
section
theorem dX0_tintInOrder_58 : decode cX0_tintInOrder 58 = .ok (.invokevirtual 147, 3) := by decide +kernel
theorem dX0_tintInOrder_61 : decode cX0_tintInOrder 61 = .ok (.invokevirtual 144, 3) := by decide +kernel
theorem dX0_tintInOrder_64 : decode cX0_tintInOrder 64 = .ok (.invokestatic 92, 3) := by decide +kernel
theorem dX0_tintInOrder_67 : decode cX0_tintInOrder 67 = .ok (.istore_n 2, 1) := by decide +kernel
theorem dX0_tintInOrder_68 : decode cX0_tintInOrder 68 = .ok (.iinc 3 (-1), 3) := by decide +kernel
theorem dX0_tintInOrder_71 : decode cX0_tintInOrder 71 = .ok (.goto (-21), 3) := by decide +kernel
theorem dX0_tintInOrder_74 : decode cX0_tintInOrder 74 = .ok (.iload_n 2, 1) := by decide +kernel
theorem dX0_tintInOrder_75 : decode cX0_tintInOrder 75 = .ok (.ireturn, 1) := by decide +kernel
set_option maxRecDepth 20000 in
theorem ggX0_fewestTints_X0_tryFewest : GoodIn wsX0_fewestTints wsX0_tryFewest := goodIn_r _ [5, 6, 7, 8, 9, 10, 4, 11, 12, 13, 14, 15, 16, 17, 18, 19, 20, 21, 22, 23, 24, 25, 26, 27, 28, 29] (by decide +kernel) (by decide +kernel)
set_option maxRecDepth 20000 in
theorem gX0_fewestTints_X0_tryFewest : GoodIn wsX0_fewestTints (wsV RX0 150 RX0 yX0_tryFewest wsX0_tryFewest) := goodIn_app (goodIn_of _ (by decide +kernel)) ggX0_fewestTints_X0_tryFewest
theorem dX0_fewestTints_0 : decode cX0_fewestTints 0 = .ok (.aload_n 0, 1) := by decide +kernel
theorem dX0_fewestTints_1 : decode cX0_fewestTints 1 = .ok (.invokevirtual 150, 3) := by decide +kernel
theorem dX0_fewestTints_4 : decode cX0_fewestTints 4 = .ok (.ireturn, 1) := by decide +kernel
set_option maxRecDepth 20000 in
theorem ggX0_tintWithFewest_X0_tryFewest : GoodIn wsX0_tintWithFewest wsX0_tryFewest := goodIn_r _ [8, 9, 1, 3, 10, 11, 7, 12, 13, 14, 15, 16, 17, 18, 19, 20, 21, 22, 23, 24, 25, 26, 27, 28, 29, 30] (by decide +kernel) (by decide +kernel)
set_option maxRecDepth 20000 in
theorem gX0_tintWithFewest_X0_tryFewest : GoodIn wsX0_tintWithFewest (wsV RX0 150 RX0 yX0_tryFewest wsX0_tryFewest) := goodIn_app (goodIn_of _ (by decide +kernel)) ggX0_tintWithFewest_X0_tryFewest
set_option maxRecDepth 20000 in
theorem ggX0_tintWithFewest_X0_has : GoodIn wsX0_tintWithFewest wsX0_has := goodIn_r _ [19] (by decide +kernel) (by decide +kernel)
set_option maxRecDepth 20000 in
theorem gX0_tintWithFewest_X0_has : GoodIn wsX0_tintWithFewest (va_wsS RX0 140 yX0_has wsX0_has) := goodIn_app (goodIn_of _ (by decide +kernel)) ggX0_tintWithFewest_X0_has
theorem dX0_tintWithFewest_0 : decode cX0_tintWithFewest 0 = .ok (.aload_n 0, 1) := by decide +kernel
theorem dX0_tintWithFewest_1 : decode cX0_tintWithFewest 1 = .ok (.invokevirtual 150, 3) := by decide +kernel
theorem dX0_tintWithFewest_4 : decode cX0_tintWithFewest 4 = .ok (.istore_n 1, 1) := by decide +kernel
theorem dX0_tintWithFewest_5 : decode cX0_tintWithFewest 5 = .ok (.iconst 0, 1) := by decide +kernel
theorem dX0_tintWithFewest_6 : decode cX0_tintWithFewest 6 = .ok (.istore_n 2, 1) := by decide +kernel
theorem dX0_tintWithFewest_7 : decode cX0_tintWithFewest 7 = .ok (.iload_n 2, 1) := by decide +kernel
theorem dX0_tintWithFewest_8 : decode cX0_tintWithFewest 8 = .ok (.bipush 10, 2) := by decide +kernel
theorem dX0_tintWithFewest_10 : decode cX0_tintWithFewest 10 = .ok (.if_icmp .ge 32, 3) := by decide +kernel
theorem dX0_tintWithFewest_13 : decode cX0_tintWithFewest 13 = .ok (.aload_n 0, 1) := by decide +kernel
theorem dX0_tintWithFewest_14 : decode cX0_tintWithFewest 14 = .ok (.getfield 13, 3) := by decide +kernel
theorem dX0_tintWithFewest_17 : decode cX0_tintWithFewest 17 = .ok (.iload_n 2, 1) := by decide +kernel
theorem dX0_tintWithFewest_18 : decode cX0_tintWithFewest 18 = .ok (.invokestatic 140, 3) := by decide +kernel
theorem dX0_tintWithFewest_21 : decode cX0_tintWithFewest 21 = .ok (.ifCond .eq 15, 3) := by decide +kernel
theorem dX0_tintWithFewest_24 : decode cX0_tintWithFewest 24 = .ok (.aload_n 0, 1) := by decide +kernel
theorem dX0_tintWithFewest_25 : decode cX0_tintWithFewest 25 = .ok (.getfield 21, 3) := by decide +kernel
theorem dX0_tintWithFewest_28 : decode cX0_tintWithFewest 28 = .ok (.iload_n 2, 1) := by decide +kernel
theorem dX0_tintWithFewest_29 : decode cX0_tintWithFewest 29 = .ok (.aload_n 0, 1) := by decide +kernel
theorem dX0_tintWithFewest_30 : decode cX0_tintWithFewest 30 = .ok (.getfield 24, 3) := by decide +kernel
theorem dX0_tintWithFewest_33 : decode cX0_tintWithFewest 33 = .ok (.iload_n 2, 1) := by decide +kernel
theorem dX0_tintWithFewest_34 : decode cX0_tintWithFewest 34 = .ok (.iaload, 1) := by decide +kernel
theorem dX0_tintWithFewest_35 : decode cX0_tintWithFewest 35 = .ok (.iastore, 1) := by decide +kernel
theorem dX0_tintWithFewest_36 : decode cX0_tintWithFewest 36 = .ok (.iinc 2 1, 3) := by decide +kernel
theorem dX0_tintWithFewest_39 : decode cX0_tintWithFewest 39 = .ok (.goto (-32), 3) := by decide +kernel
theorem dX0_tintWithFewest_42 : decode cX0_tintWithFewest 42 = .ok (.iload_n 1, 1) := by decide +kernel
theorem dX0_tintWithFewest_43 : decode cX0_tintWithFewest 43 = .ok (.ireturn, 1) := by decide +kernel
set_option maxRecDepth 20000 in
theorem ggX0_tintings_X0_checkNumberOfTints : GoodIn wsX0_tintings wsX0_checkNumberOfTints := goodIn_ca (goodIn_r _ [6, 7, 8] (by decide +kernel) (by decide +kernel)) (goodIn_sub (fun _ h => List.mem_cons_of_mem _ (List.mem_append_right _ h)) (by decide +kernel))
set_option maxRecDepth 20000 in
theorem gX0_tintings_X0_checkNumberOfTints : GoodIn wsX0_tintings (va_wsS RX0 153 yX0_checkNumberOfTints wsX0_checkNumberOfTints) := goodIn_app (goodIn_of _ (by decide +kernel)) ggX0_tintings_X0_checkNumberOfTints
set_option maxRecDepth 20000 in
theorem ggX0_tintings_X0_markSetsWithoutNeighbours : GoodIn wsX0_tintings wsX0_markSetsWithoutNeighbours := goodIn_r _ [12, 13, 14, 27, 28, 29, 30, 31, 32, 33, 34] (by decide +kernel) (by decide +kernel)
set_option maxRecDepth 20000 in
theorem gX0_tintings_X0_markSetsWithoutNeighbours : GoodIn wsX0_tintings (wsV RX0 156 RX0 yX0_markSetsWithoutNeighbours wsX0_markSetsWithoutNeighbours) := goodIn_app (goodIn_of _ (by decide +kernel)) ggX0_tintings_X0_markSetsWithoutNeighbours
set_option maxRecDepth 20000 in
theorem ggX0_tintings_J7_fill_d0a16 : GoodIn wsX0_tintings wsJ7_fill_d0a16 := goodIn_r _ [18] (by decide +kernel) (by decide +kernel)
set_option maxRecDepth 20000 in
theorem gX0_tintings_J7_fill_d0a16 : GoodIn wsX0_tintings (va_wsS RX0 159 yJ7_fill_d0a16 wsJ7_fill_d0a16) := goodIn_app (goodIn_of _ (by decide +kernel)) ggX0_tintings_J7_fill_d0a16
set_option maxRecDepth 20000 in
theorem ggX0_tintings_X0_shareOutOneSet : GoodIn wsX0_tintings wsX0_shareOutOneSet := goodIn_r _ [22, 1, 23, 24, 25, 5, 26, 13, 27, 28, 29, 30, 31, 32, 33, 34] (by decide +kernel) (by decide +kernel)
set_option maxRecDepth 20000 in
theorem gX0_tintings_X0_shareOutOneSet : GoodIn wsX0_tintings (wsV RX0 165 RX0 yX0_shareOutOneSet wsX0_shareOutOneSet) := goodIn_app (goodIn_of _ (by decide +kernel)) ggX0_tintings_X0_shareOutOneSet
theorem dX0_tintings_0 : decode cX0_tintings 0 = .ok (.iload_n 1, 1) := by decide +kernel
theorem dX0_tintings_1 : decode cX0_tintings 1 = .ok (.invokestatic 153, 3) := by decide +kernel
theorem dX0_tintings_4 : decode cX0_tintings 4 = .ok (.aload_n 0, 1) := by decide +kernel
theorem dX0_tintings_5 : decode cX0_tintings 5 = .ok (.invokevirtual 156, 3) := by decide +kernel
theorem dX0_tintings_8 : decode cX0_tintings 8 = .ok (.aload_n 0, 1) := by decide +kernel
theorem dX0_tintings_9 : decode cX0_tintings 9 = .ok (.getfield 31, 3) := by decide +kernel
theorem dX0_tintings_12 : decode cX0_tintings 12 = .ok (.lconst 0, 1) := by decide +kernel
theorem dX0_tintings_13 : decode cX0_tintings 13 = .ok (.invokestatic 159, 3) := by decide +kernel
theorem dX0_tintings_16 : decode cX0_tintings 16 = .ok (.aload_n 0, 1) := by decide +kernel
theorem dX0_tintings_17 : decode cX0_tintings 17 = .ok (.getfield 31, 3) := by decide +kernel
theorem dX0_tintings_20 : decode cX0_tintings 20 = .ok (.aload_n 0, 1) := by decide +kernel
theorem dX0_tintings_21 : decode cX0_tintings 21 = .ok (.getfield 13, 3) := by decide +kernel
theorem dX0_tintings_24 : decode cX0_tintings 24 = .ok (.lconst 1, 1) := by decide +kernel
theorem dX0_tintings_25 : decode cX0_tintings 25 = .ok (.lastore, 1) := by decide +kernel
theorem dX0_tintings_26 : decode cX0_tintings 26 = .ok (.aload_n 0, 1) := by decide +kernel
theorem dX0_tintings_27 : decode cX0_tintings 27 = .ok (.getfield 13, 3) := by decide +kernel
theorem dX0_tintings_30 : decode cX0_tintings 30 = .ok (.ifCond .ne 7, 3) := by decide +kernel
theorem dX0_tintings_33 : decode cX0_tintings 33 = .ok (.lconst 1, 1) := by decide +kernel
theorem dX0_tintings_34 : decode cX0_tintings 34 = .ok (.goto 4, 3) := by decide +kernel
theorem dX0_tintings_37 : decode cX0_tintings 37 = .ok (.lconst 0, 1) := by decide +kernel
theorem dX0_tintings_38 : decode cX0_tintings 38 = .ok (.lstore_n 2, 1) := by decide +kernel
theorem dX0_tintings_39 : decode cX0_tintings 39 = .ok (.lconst 1, 1) := by decide +kernel
theorem dX0_tintings_40 : decode cX0_tintings 40 = .ok (.lstore 4, 2) := by decide +kernel
theorem dX0_tintings_42 : decode cX0_tintings 42 = .ok (.iconst 0, 1) := by decide +kernel
theorem dX0_tintings_43 : decode cX0_tintings 43 = .ok (.istore 6, 2) := by decide +kernel
theorem dX0_tintings_45 : decode cX0_tintings 45 = .ok (.iload 6, 2) := by decide +kernel
theorem dX0_tintings_47 : decode cX0_tintings 47 = .ok (.iload_n 1, 1) := by decide +kernel
theorem dX0_tintings_48 : decode cX0_tintings 48 = .ok (.if_icmp .ge 42, 3) := by decide +kernel
theorem dX0_tintings_51 : decode cX0_tintings 51 = .ok (.iload 6, 2) := by decide +kernel
theorem dX0_tintings_53 : decode cX0_tintings 53 = .ok (.bipush 10, 2) := by decide +kernel
theorem dX0_tintings_55 : decode cX0_tintings 55 = .ok (.if_icmp .ge 35, 3) := by decide +kernel
theorem dX0_tintings_58 : decode cX0_tintings 58 = .ok (.lload 4, 2) := by decide +kernel
theorem dX0_tintings_60 : decode cX0_tintings 60 = .ok (.iload_n 1, 1) := by decide +kernel
theorem dX0_tintings_61 : decode cX0_tintings 61 = .ok (.iload 6, 2) := by decide +kernel
theorem dX0_tintings_63 : decode cX0_tintings 63 = .ok (.isub, 1) := by decide +kernel
theorem dX0_tintings_64 : decode cX0_tintings 64 = .ok (.i2l, 1) := by decide +kernel
theorem dX0_tintings_65 : decode cX0_tintings 65 = .ok (.lmul, 1) := by decide +kernel
theorem dX0_tintings_66 : decode cX0_tintings 66 = .ok (.lstore 4, 2) := by decide +kernel
theorem dX0_tintings_68 : decode cX0_tintings 68 = .ok (.aload_n 0, 1) := by decide +kernel
theorem dX0_tintings_69 : decode cX0_tintings 69 = .ok (.invokevirtual 165, 3) := by decide +kernel
theorem dX0_tintings_72 : decode cX0_tintings 72 = .ok (.lload_n 2, 1) := by decide +kernel
theorem dX0_tintings_73 : decode cX0_tintings 73 = .ok (.lload 4, 2) := by decide +kernel
theorem dX0_tintings_75 : decode cX0_tintings 75 = .ok (.aload_n 0, 1) := by decide +kernel
theorem dX0_tintings_76 : decode cX0_tintings 76 = .ok (.getfield 31, 3) := by decide +kernel
theorem dX0_tintings_79 : decode cX0_tintings 79 = .ok (.iconst 0, 1) := by decide +kernel
theorem dX0_tintings_80 : decode cX0_tintings 80 = .ok (.laload, 1) := by decide +kernel
theorem dX0_tintings_81 : decode cX0_tintings 81 = .ok (.lmul, 1) := by decide +kernel
theorem dX0_tintings_82 : decode cX0_tintings 82 = .ok (.ladd, 1) := by decide +kernel
theorem dX0_tintings_83 : decode cX0_tintings 83 = .ok (.lstore_n 2, 1) := by decide +kernel
theorem dX0_tintings_84 : decode cX0_tintings 84 = .ok (.iinc 6 1, 3) := by decide +kernel
theorem dX0_tintings_87 : decode cX0_tintings 87 = .ok (.goto (-42), 3) := by decide +kernel
theorem dX0_tintings_90 : decode cX0_tintings 90 = .ok (.lload_n 2, 1) := by decide +kernel
theorem dX0_tintings_91 : decode cX0_tintings 91 = .ok (.lreturn, 1) := by decide +kernel
set_option maxRecDepth 20000 in
theorem ggX0_tintingsByPairs_X0_checkNumberOfTints : GoodIn wsX0_tintingsByPairs wsX0_checkNumberOfTints := goodIn_ca (goodIn_r _ [11, 12, 13] (by decide +kernel) (by decide +kernel)) (goodIn_sub (fun _ h => List.mem_cons_of_mem _ (List.mem_append_right _ h)) (by decide +kernel))
set_option maxRecDepth 20000 in
theorem gX0_tintingsByPairs_X0_checkNumberOfTints : GoodIn wsX0_tintingsByPairs (va_wsS RX0 153 yX0_checkNumberOfTints wsX0_checkNumberOfTints) := goodIn_app (goodIn_of _ (by decide +kernel)) ggX0_tintingsByPairs_X0_checkNumberOfTints
set_option maxRecDepth 20000 in
theorem ggX0_tintingsByPairs_X0_countByPairs : GoodIn wsX0_tintingsByPairs wsX0_countByPairs := goodIn_r _ [16, 17, 18, 10, 19, 20, 21, 22, 23, 24, 25, 26, 27, 28, 29, 30, 31, 32, 33, 34, 35, 36, 37, 38, 39, 40, 41, 14, 15] (by decide +kernel) (by decide +kernel)
set_option maxRecDepth 20000 in
theorem gX0_tintingsByPairs_X0_countByPairs : GoodIn wsX0_tintingsByPairs (va_wsS RX0 174 yX0_countByPairs wsX0_countByPairs) := goodIn_app (goodIn_of _ (by decide +kernel)) ggX0_tintingsByPairs_X0_countByPairs
theorem dX0_tintingsByPairs_0 : decode cX0_tintingsByPairs 0 = .ok (.iload_n 1, 1) := by decide +kernel
theorem dX0_tintingsByPairs_1 : decode cX0_tintingsByPairs 1 = .ok (.invokestatic 153, 3) := by decide +kernel
theorem dX0_tintingsByPairs_4 : decode cX0_tintingsByPairs 4 = .ok (.aload_n 0, 1) := by decide +kernel
theorem dX0_tintingsByPairs_5 : decode cX0_tintingsByPairs 5 = .ok (.getfield 17, 3) := by decide +kernel
theorem dX0_tintingsByPairs_8 : decode cX0_tintingsByPairs 8 = .ok (.iconst 0, 1) := by decide +kernel
theorem dX0_tintingsByPairs_9 : decode cX0_tintingsByPairs 9 = .ok (.aload_n 0, 1) := by decide +kernel
theorem dX0_tintingsByPairs_10 : decode cX0_tintingsByPairs 10 = .ok (.getfield 36, 3) := by decide +kernel
theorem dX0_tintingsByPairs_13 : decode cX0_tintingsByPairs 13 = .ok (.iconst 0, 1) := by decide +kernel
theorem dX0_tintingsByPairs_14 : decode cX0_tintingsByPairs 14 = .ok (.aaload, 1) := by decide +kernel
theorem dX0_tintingsByPairs_15 : decode cX0_tintingsByPairs 15 = .ok (.iconst 0, 1) := by decide +kernel
theorem dX0_tintingsByPairs_16 : decode cX0_tintingsByPairs 16 = .ok (.bipush 10, 2) := by decide +kernel
theorem dX0_tintingsByPairs_18 : decode cX0_tintingsByPairs 18 = .ok (.invokestatic 168, 3) := by decide +kernel
theorem dX0_tintingsByPairs_21 : decode cX0_tintingsByPairs 21 = .ok (.aload_n 0, 1) := by decide +kernel
theorem dX0_tintingsByPairs_22 : decode cX0_tintingsByPairs 22 = .ok (.getfield 36, 3) := by decide +kernel
theorem dX0_tintingsByPairs_25 : decode cX0_tintingsByPairs 25 = .ok (.iconst 0, 1) := by decide +kernel
theorem dX0_tintingsByPairs_26 : decode cX0_tintingsByPairs 26 = .ok (.aload_n 0, 1) := by decide +kernel
theorem dX0_tintingsByPairs_27 : decode cX0_tintingsByPairs 27 = .ok (.getfield 13, 3) := by decide +kernel
theorem dX0_tintingsByPairs_30 : decode cX0_tintingsByPairs 30 = .ok (.iload_n 1, 1) := by decide +kernel
theorem dX0_tintingsByPairs_31 : decode cX0_tintingsByPairs 31 = .ok (.invokestatic 174, 3) := by decide +kernel
theorem dX0_tintingsByPairs_34 : decode cX0_tintingsByPairs 34 = .ok (.lreturn, 1) := by decide +kernel
theorem dX0_checkCell_0 : decode cX0_checkCell 0 = .ok (.iload_n 0, 1) := by decide +kernel
theorem dX0_checkCell_1 : decode cX0_checkCell 1 = .ok (.ifCond .lt 19, 3) := by decide +kernel
theorem dX0_checkCell_4 : decode cX0_checkCell 4 = .ok (.iload_n 0, 1) := by decide +kernel
theorem dX0_checkCell_5 : decode cX0_checkCell 5 = .ok (.bipush 6, 2) := by decide +kernel
theorem dX0_checkCell_7 : decode cX0_checkCell 7 = .ok (.if_icmp .ge 13, 3) := by decide +kernel
theorem dX0_checkCell_10 : decode cX0_checkCell 10 = .ok (.iload_n 1, 1) := by decide +kernel
theorem dX0_checkCell_11 : decode cX0_checkCell 11 = .ok (.ifCond .lt 9, 3) := by decide +kernel
theorem dX0_checkCell_14 : decode cX0_checkCell 14 = .ok (.iload_n 1, 1) := by decide +kernel
theorem dX0_checkCell_15 : decode cX0_checkCell 15 = .ok (.bipush 6, 2) := by decide +kernel
theorem dX0_checkCell_17 : decode cX0_checkCell 17 = .ok (.if_icmp .lt 13, 3) := by decide +kernel
theorem dX0_checkCell_20 : decode cX0_checkCell 20 = .ok (.new 178, 3) := by decide +kernel
theorem dX0_checkCell_23 : decode cX0_checkCell 23 = .ok (.dup, 1) := by decide +kernel
theorem dX0_checkCell_24 : decode cX0_checkCell 24 = .ok (.ldc 180, 2) := by decide +kernel
theorem dX0_checkCell_26 : decode cX0_checkCell 26 = .ok (.invokespecial 182, 3) := by decide +kernel
theorem dX0_checkCell_29 : decode cX0_checkCell 29 = .ok (.athrow, 1) := by decide +kernel
theorem dX0_checkCell_30 : decode cX0_checkCell 30 = .ok (.return_, 1) := by decide +kernel
theorem dX0_checkCountry_0 : decode cX0_checkCountry 0 = .ok (.iload_n 0, 1) := by decide +kernel
theorem dX0_checkCountry_1 : decode cX0_checkCountry 1 = .ok (.ifCond .lt 9, 3) := by decide +kernel
theorem dX0_checkCountry_4 : decode cX0_checkCountry 4 = .ok (.iload_n 0, 1) := by decide +kernel
theorem dX0_checkCountry_5 : decode cX0_checkCountry 5 = .ok (.bipush 10, 2) := by decide +kernel
theorem dX0_checkCountry_7 : decode cX0_checkCountry 7 = .ok (.if_icmp .lt 13, 3) := by decide +kernel
theorem dX0_checkCountry_10 : decode cX0_checkCountry 10 = .ok (.new 178, 3) := by decide +kernel
theorem dX0_checkCountry_13 : decode cX0_checkCountry 13 = .ok (.dup, 1) := by decide +kernel
theorem dX0_checkCountry_14 : decode cX0_checkCountry 14 = .ok (.ldc 183, 2) := by decide +kernel
theorem dX0_checkCountry_16 : decode cX0_checkCountry 16 = .ok (.invokespecial 182, 3) := by decide +kernel
theorem dX0_checkCountry_19 : decode cX0_checkCountry 19 = .ok (.athrow, 1) := by decide +kernel
theorem dX0_checkCountry_20 : decode cX0_checkCountry 20 = .ok (.return_, 1) := by decide +kernel
theorem dX0_checkPaint_0 : decode cX0_checkPaint 0 = .ok (.iload_n 0, 1) := by decide +kernel
theorem dX0_checkPaint_1 : decode cX0_checkPaint 1 = .ok (.iconst (-1), 1) := by decide +kernel
theorem dX0_checkPaint_2 : decode cX0_checkPaint 2 = .ok (.if_icmp .eq 23, 3) := by decide +kernel
theorem dX0_checkPaint_5 : decode cX0_checkPaint 5 = .ok (.iload_n 0, 1) := by decide +kernel
theorem dX0_checkPaint_6 : decode cX0_checkPaint 6 = .ok (.ifCond .lt 9, 3) := by decide +kernel
theorem dX0_checkPaint_9 : decode cX0_checkPaint 9 = .ok (.iload_n 0, 1) := by decide +kernel
theorem dX0_checkPaint_10 : decode cX0_checkPaint 10 = .ok (.bipush 10, 2) := by decide +kernel
theorem dX0_checkPaint_12 : decode cX0_checkPaint 12 = .ok (.if_icmp .lt 13, 3) := by decide +kernel
theorem dX0_checkPaint_15 : decode cX0_checkPaint 15 = .ok (.new 59, 3) := by decide +kernel
theorem dX0_checkPaint_18 : decode cX0_checkPaint 18 = .ok (.dup, 1) := by decide +kernel
theorem dX0_checkPaint_19 : decode cX0_checkPaint 19 = .ok (.ldc 185, 2) := by decide +kernel
theorem dX0_checkPaint_21 : decode cX0_checkPaint 21 = .ok (.invokespecial 63, 3) := by decide +kernel
theorem dX0_checkPaint_24 : decode cX0_checkPaint 24 = .ok (.athrow, 1) := by decide +kernel
theorem dX0_checkPaint_25 : decode cX0_checkPaint 25 = .ok (.return_, 1) := by decide +kernel
theorem dX0_checkTint_0 : decode cX0_checkTint 0 = .ok (.iload_n 0, 1) := by decide +kernel
theorem dX0_checkTint_1 : decode cX0_checkTint 1 = .ok (.iconst 1, 1) := by decide +kernel
theorem dX0_checkTint_2 : decode cX0_checkTint 2 = .ok (.if_icmp .lt 9, 3) := by decide +kernel
theorem dX0_checkTint_5 : decode cX0_checkTint 5 = .ok (.iload_n 0, 1) := by decide +kernel
theorem dX0_checkTint_6 : decode cX0_checkTint 6 = .ok (.bipush 10, 2) := by decide +kernel
theorem dX0_checkTint_8 : decode cX0_checkTint 8 = .ok (.if_icmp .le 13, 3) := by decide +kernel
theorem dX0_checkTint_11 : decode cX0_checkTint 11 = .ok (.new 59, 3) := by decide +kernel
theorem dX0_checkTint_14 : decode cX0_checkTint 14 = .ok (.dup, 1) := by decide +kernel
theorem dX0_checkTint_15 : decode cX0_checkTint 15 = .ok (.ldc 187, 2) := by decide +kernel
theorem dX0_checkTint_17 : decode cX0_checkTint 17 = .ok (.invokespecial 63, 3) := by decide +kernel
theorem dX0_checkTint_20 : decode cX0_checkTint 20 = .ok (.athrow, 1) := by decide +kernel
theorem dX0_checkTint_21 : decode cX0_checkTint 21 = .ok (.return_, 1) := by decide +kernel
theorem dX0_checkNumberOfTints_0 : decode cX0_checkNumberOfTints 0 = .ok (.iload_n 0, 1) := by decide +kernel
theorem dX0_checkNumberOfTints_1 : decode cX0_checkNumberOfTints 1 = .ok (.ifCond .lt 9, 3) := by decide +kernel
theorem dX0_checkNumberOfTints_4 : decode cX0_checkNumberOfTints 4 = .ok (.iload_n 0, 1) := by decide +kernel
theorem dX0_checkNumberOfTints_5 : decode cX0_checkNumberOfTints 5 = .ok (.bipush 10, 2) := by decide +kernel
theorem dX0_checkNumberOfTints_7 : decode cX0_checkNumberOfTints 7 = .ok (.if_icmp .le 13, 3) := by decide +kernel
theorem dX0_checkNumberOfTints_10 : decode cX0_checkNumberOfTints 10 = .ok (.new 59, 3) := by decide +kernel
theorem dX0_checkNumberOfTints_13 : decode cX0_checkNumberOfTints 13 = .ok (.dup, 1) := by decide +kernel
theorem dX0_checkNumberOfTints_14 : decode cX0_checkNumberOfTints 14 = .ok (.ldc 189, 2) := by decide +kernel
theorem dX0_checkNumberOfTints_16 : decode cX0_checkNumberOfTints 16 = .ok (.invokespecial 63, 3) := by decide +kernel
theorem dX0_checkNumberOfTints_19 : decode cX0_checkNumberOfTints 19 = .ok (.athrow, 1) := by decide +kernel
theorem dX0_checkNumberOfTints_20 : decode cX0_checkNumberOfTints 20 = .ok (.return_, 1) := by decide +kernel
set_option maxRecDepth 20000 in
theorem ggX0_checkTinted_X0_has : GoodIn wsX0_checkTinted wsX0_has := goodIn_r _ [8] (by decide +kernel) (by decide +kernel)
set_option maxRecDepth 20000 in
theorem gX0_checkTinted_X0_has : GoodIn wsX0_checkTinted (va_wsS RX0 140 yX0_has wsX0_has) := goodIn_app (goodIn_of _ (by decide +kernel)) ggX0_checkTinted_X0_has
theorem dX0_checkTinted_0 : decode cX0_checkTinted 0 = .ok (.aload_n 0, 1) := by decide +kernel
theorem dX0_checkTinted_1 : decode cX0_checkTinted 1 = .ok (.getfield 13, 3) := by decide +kernel
theorem dX0_checkTinted_4 : decode cX0_checkTinted 4 = .ok (.iload_n 1, 1) := by decide +kernel
theorem dX0_checkTinted_5 : decode cX0_checkTinted 5 = .ok (.invokestatic 140, 3) := by decide +kernel
theorem dX0_checkTinted_8 : decode cX0_checkTinted 8 = .ok (.ifCond .eq 12, 3) := by decide +kernel
theorem dX0_checkTinted_11 : decode cX0_checkTinted 11 = .ok (.aload_n 0, 1) := by decide +kernel
theorem dX0_checkTinted_12 : decode cX0_checkTinted 12 = .ok (.getfield 21, 3) := by decide +kernel
theorem dX0_checkTinted_15 : decode cX0_checkTinted 15 = .ok (.iload_n 1, 1) := by decide +kernel
theorem dX0_checkTinted_16 : decode cX0_checkTinted 16 = .ok (.iaload, 1) := by decide +kernel
theorem dX0_checkTinted_17 : decode cX0_checkTinted 17 = .ok (.ifCond .ne 13, 3) := by decide +kernel
theorem dX0_checkTinted_20 : decode cX0_checkTinted 20 = .ok (.new 191, 3) := by decide +kernel
theorem dX0_checkTinted_23 : decode cX0_checkTinted 23 = .ok (.dup, 1) := by decide +kernel
theorem dX0_checkTinted_24 : decode cX0_checkTinted 24 = .ok (.ldc 193, 2) := by decide +kernel
theorem dX0_checkTinted_26 : decode cX0_checkTinted 26 = .ok (.invokespecial 195, 3) := by decide +kernel
theorem dX0_checkTinted_29 : decode cX0_checkTinted 29 = .ok (.athrow, 1) := by decide +kernel
theorem dX0_checkTinted_30 : decode cX0_checkTinted 30 = .ok (.return_, 1) := by decide +kernel
theorem dX0_block_0 : decode cX0_block 0 = .ok (.lconst 0, 1) := by decide +kernel
theorem dX0_block_1 : decode cX0_block 1 = .ok (.lstore 4, 2) := by decide +kernel
theorem dX0_block_3 : decode cX0_block 3 = .ok (.iload_n 0, 1) := by decide +kernel
theorem dX0_block_4 : decode cX0_block 4 = .ok (.istore 6, 2) := by decide +kernel
theorem dX0_block_6 : decode cX0_block 6 = .ok (.iload 6, 2) := by decide +kernel
theorem dX0_block_8 : decode cX0_block 8 = .ok (.iload_n 2, 1) := by decide +kernel
theorem dX0_block_9 : decode cX0_block 9 = .ok (.if_icmp .gt 39, 3) := by decide +kernel
theorem dX0_block_12 : decode cX0_block 12 = .ok (.iload_n 1, 1) := by decide +kernel
theorem dX0_block_13 : decode cX0_block 13 = .ok (.istore 7, 2) := by decide +kernel
theorem dX0_block_15 : decode cX0_block 15 = .ok (.iload 7, 2) := by decide +kernel
theorem dX0_block_17 : decode cX0_block 17 = .ok (.iload_n 3, 1) := by decide +kernel
theorem dX0_block_18 : decode cX0_block 18 = .ok (.if_icmp .gt 24, 3) := by decide +kernel
theorem dX0_block_21 : decode cX0_block 21 = .ok (.lload 4, 2) := by decide +kernel
theorem dX0_block_23 : decode cX0_block 23 = .ok (.lconst 1, 1) := by decide +kernel
theorem dX0_block_24 : decode cX0_block 24 = .ok (.iload 6, 2) := by decide +kernel
theorem dX0_block_26 : decode cX0_block 26 = .ok (.bipush 6, 2) := by decide +kernel
theorem dX0_block_28 : decode cX0_block 28 = .ok (.imul, 1) := by decide +kernel
theorem dX0_block_29 : decode cX0_block 29 = .ok (.iload 7, 2) := by decide +kernel
theorem dX0_block_31 : decode cX0_block 31 = .ok (.iadd, 1) := by decide +kernel
theorem dX0_block_32 : decode cX0_block 32 = .ok (.lshl, 1) := by decide +kernel
theorem dX0_block_33 : decode cX0_block 33 = .ok (.lor, 1) := by decide +kernel
theorem dX0_block_34 : decode cX0_block 34 = .ok (.lstore 4, 2) := by decide +kernel
theorem dX0_block_36 : decode cX0_block 36 = .ok (.iinc 7 1, 3) := by decide +kernel
theorem dX0_block_39 : decode cX0_block 39 = .ok (.goto (-24), 3) := by decide +kernel
theorem dX0_block_42 : decode cX0_block 42 = .ok (.iinc 6 1, 3) := by decide +kernel
theorem dX0_block_45 : decode cX0_block 45 = .ok (.goto (-39), 3) := by decide +kernel
theorem dX0_block_48 : decode cX0_block 48 = .ok (.lload 4, 2) := by decide +kernel
theorem dX0_block_50 : decode cX0_block 50 = .ok (.lreturn, 1) := by decide +kernel
theorem dX0_above_0 : decode cX0_above 0 = .ok (.lload_n 0, 1) := by decide +kernel
theorem dX0_above_1 : decode cX0_above 1 = .ok (.bipush 6, 2) := by decide +kernel
theorem dX0_above_3 : decode cX0_above 3 = .ok (.lushr, 1) := by decide +kernel
theorem dX0_above_4 : decode cX0_above 4 = .ok (.lreturn, 1) := by decide +kernel
theorem dX0_below_0 : decode cX0_below 0 = .ok (.lload_n 0, 1) := by decide +kernel
theorem dX0_below_1 : decode cX0_below 1 = .ok (.bipush 6, 2) := by decide +kernel
theorem dX0_below_3 : decode cX0_below 3 = .ok (.lshl, 1) := by decide +kernel
theorem dX0_below_4 : decode cX0_below 4 = .ok (.ldc2_w 110, 3) := by decide +kernel
theorem dX0_below_7 : decode cX0_below 7 = .ok (.land, 1) := by decide +kernel
theorem dX0_below_8 : decode cX0_below 8 = .ok (.lreturn, 1) := by decide +kernel
theorem dX0_leftOf_0 : decode cX0_leftOf 0 = .ok (.lload_n 0, 1) := by decide +kernel
theorem dX0_leftOf_1 : decode cX0_leftOf 1 = .ok (.ldc2_w 196, 3) := by decide +kernel
theorem dX0_leftOf_4 : decode cX0_leftOf 4 = .ok (.land, 1) := by decide +kernel
theorem dX0_leftOf_5 : decode cX0_leftOf 5 = .ok (.iconst 1, 1) := by decide +kernel
theorem dX0_leftOf_6 : decode cX0_leftOf 6 = .ok (.lushr, 1) := by decide +kernel
theorem dX0_leftOf_7 : decode cX0_leftOf 7 = .ok (.lreturn, 1) := by decide +kernel
theorem dX0_rightOf_0 : decode cX0_rightOf 0 = .ok (.lload_n 0, 1) := by decide +kernel
theorem dX0_rightOf_1 : decode cX0_rightOf 1 = .ok (.ldc2_w 198, 3) := by decide +kernel
theorem dX0_rightOf_4 : decode cX0_rightOf 4 = .ok (.land, 1) := by decide +kernel
theorem dX0_rightOf_5 : decode cX0_rightOf 5 = .ok (.iconst 1, 1) := by decide +kernel
theorem dX0_rightOf_6 : decode cX0_rightOf 6 = .ok (.lshl, 1) := by decide +kernel
theorem dX0_rightOf_7 : decode cX0_rightOf 7 = .ok (.lreturn, 1) := by decide +kernel
set_option maxRecDepth 20000 in
theorem ggX0_spread_X0_above : GoodIn wsX0_spread wsX0_above := goodIn_r _ [4] (by decide +kernel) (by decide +kernel)
set_option maxRecDepth 20000 in
theorem gX0_spread_X0_above : GoodIn wsX0_spread (va_wsS RX0 98 yX0_above wsX0_above) := goodIn_app (goodIn_of _ (by decide +kernel)) ggX0_spread_X0_above
set_option maxRecDepth 20000 in
theorem ggX0_spread_X0_below : GoodIn wsX0_spread wsX0_below := goodIn_r _ [7, 8] (by decide +kernel) (by decide +kernel)
set_option maxRecDepth 20000 in
theorem gX0_spread_X0_below : GoodIn wsX0_spread (va_wsS RX0 101 yX0_below wsX0_below) := goodIn_app (goodIn_of _ (by decide +kernel)) ggX0_spread_X0_below
set_option maxRecDepth 20000 in
theorem ggX0_spread_X0_leftOf : GoodIn wsX0_spread wsX0_leftOf := goodIn_r _ [11, 12] (by decide +kernel) (by decide +kernel)
set_option maxRecDepth 20000 in
theorem gX0_spread_X0_leftOf : GoodIn wsX0_spread (va_wsS RX0 104 yX0_leftOf wsX0_leftOf) := goodIn_app (goodIn_of _ (by decide +kernel)) ggX0_spread_X0_leftOf
set_option maxRecDepth 20000 in
theorem ggX0_spread_X0_rightOf : GoodIn wsX0_spread wsX0_rightOf := goodIn_r _ [15, 16] (by decide +kernel) (by decide +kernel)
set_option maxRecDepth 20000 in
theorem gX0_spread_X0_rightOf : GoodIn wsX0_spread (va_wsS RX0 107 yX0_rightOf wsX0_rightOf) := goodIn_app (goodIn_of _ (by decide +kernel)) ggX0_spread_X0_rightOf
theorem dX0_spread_0 : decode cX0_spread 0 = .ok (.lload_n 0, 1) := by decide +kernel
theorem dX0_spread_1 : decode cX0_spread 1 = .ok (.lload_n 0, 1) := by decide +kernel
theorem dX0_spread_2 : decode cX0_spread 2 = .ok (.invokestatic 98, 3) := by decide +kernel
theorem dX0_spread_5 : decode cX0_spread 5 = .ok (.lor, 1) := by decide +kernel
theorem dX0_spread_6 : decode cX0_spread 6 = .ok (.lload_n 0, 1) := by decide +kernel
theorem dX0_spread_7 : decode cX0_spread 7 = .ok (.invokestatic 101, 3) := by decide +kernel
theorem dX0_spread_10 : decode cX0_spread 10 = .ok (.lor, 1) := by decide +kernel
theorem dX0_spread_11 : decode cX0_spread 11 = .ok (.lload_n 0, 1) := by decide +kernel
theorem dX0_spread_12 : decode cX0_spread 12 = .ok (.invokestatic 104, 3) := by decide +kernel
theorem dX0_spread_15 : decode cX0_spread 15 = .ok (.lor, 1) := by decide +kernel
theorem dX0_spread_16 : decode cX0_spread 16 = .ok (.lload_n 0, 1) := by decide +kernel
theorem dX0_spread_17 : decode cX0_spread 17 = .ok (.invokestatic 107, 3) := by decide +kernel
theorem dX0_spread_20 : decode cX0_spread 20 = .ok (.lor, 1) := by decide +kernel
theorem dX0_spread_21 : decode cX0_spread 21 = .ok (.lreturn, 1) := by decide +kernel
set_option maxRecDepth 20000 in
theorem ggX0_reach_X0_spread : GoodIn wsX0_reach wsX0_spread := goodIn_r _ [4, 5, 6, 3, 7, 8, 9, 10, 11, 12, 13, 14, 15, 16, 17, 18, 19] (by decide +kernel) (by decide +kernel)
set_option maxRecDepth 20000 in
theorem gX0_reach_X0_spread : GoodIn wsX0_reach (va_wsS RX0 200 yX0_spread wsX0_spread) := goodIn_app (goodIn_of _ (by decide +kernel)) ggX0_reach_X0_spread
theorem dX0_reach_0 : decode cX0_reach 0 = .ok (.lload_n 0, 1) := by decide +kernel
theorem dX0_reach_1 : decode cX0_reach 1 = .ok (.lstore 4, 2) := by decide +kernel
theorem dX0_reach_3 : decode cX0_reach 3 = .ok (.iconst 0, 1) := by decide +kernel
theorem dX0_reach_4 : decode cX0_reach 4 = .ok (.istore 6, 2) := by decide +kernel
theorem dX0_reach_6 : decode cX0_reach 6 = .ok (.iload 6, 2) := by decide +kernel
theorem dX0_reach_8 : decode cX0_reach 8 = .ok (.bipush 36, 2) := by decide +kernel
theorem dX0_reach_10 : decode cX0_reach 10 = .ok (.if_icmp .ge 33, 3) := by decide +kernel
theorem dX0_reach_13 : decode cX0_reach 13 = .ok (.lload 4, 2) := by decide +kernel
theorem dX0_reach_15 : decode cX0_reach 15 = .ok (.invokestatic 200, 3) := by decide +kernel
theorem dX0_reach_18 : decode cX0_reach 18 = .ok (.lload_n 2, 1) := by decide +kernel
theorem dX0_reach_19 : decode cX0_reach 19 = .ok (.land, 1) := by decide +kernel
theorem dX0_reach_20 : decode cX0_reach 20 = .ok (.lstore 7, 2) := by decide +kernel
theorem dX0_reach_22 : decode cX0_reach 22 = .ok (.lload 7, 2) := by decide +kernel
theorem dX0_reach_24 : decode cX0_reach 24 = .ok (.lload 4, 2) := by decide +kernel
theorem dX0_reach_26 : decode cX0_reach 26 = .ok (.lcmp, 1) := by decide +kernel
theorem dX0_reach_27 : decode cX0_reach 27 = .ok (.ifCond .ne 6, 3) := by decide +kernel
theorem dX0_reach_30 : decode cX0_reach 30 = .ok (.lload 4, 2) := by decide +kernel
theorem dX0_reach_32 : decode cX0_reach 32 = .ok (.lreturn, 1) := by decide +kernel
theorem dX0_reach_33 : decode cX0_reach 33 = .ok (.lload 7, 2) := by decide +kernel
theorem dX0_reach_35 : decode cX0_reach 35 = .ok (.lstore 4, 2) := by decide +kernel
theorem dX0_reach_37 : decode cX0_reach 37 = .ok (.iinc 6 1, 3) := by decide +kernel
theorem dX0_reach_40 : decode cX0_reach 40 = .ok (.goto (-34), 3) := by decide +kernel
theorem dX0_reach_43 : decode cX0_reach 43 = .ok (.lload 4, 2) := by decide +kernel
theorem dX0_reach_45 : decode cX0_reach 45 = .ok (.lreturn, 1) := by decide +kernel
set_option maxRecDepth 20000 in
theorem ggX0_pieceIn_X0_reach : GoodIn wsX0_pieceIn wsX0_reach := goodIn_r _ [4, 5, 6, 3, 7, 8, 9, 10, 11, 12, 13, 14, 15, 16, 17, 18, 19, 20, 21, 22] (by decide +kernel) (by decide +kernel)
set_option maxRecDepth 20000 in
theorem gX0_pieceIn_X0_reach : GoodIn wsX0_pieceIn (va_wsS RX0 114 yX0_reach wsX0_reach) := goodIn_app (goodIn_of _ (by decide +kernel)) ggX0_pieceIn_X0_reach
theorem dX0_pieceIn_0 : decode cX0_pieceIn 0 = .ok (.lload_n 0, 1) := by decide +kernel
theorem dX0_pieceIn_1 : decode cX0_pieceIn 1 = .ok (.lload_n 0, 1) := by decide +kernel
theorem dX0_pieceIn_2 : decode cX0_pieceIn 2 = .ok (.lneg, 1) := by decide +kernel
theorem dX0_pieceIn_3 : decode cX0_pieceIn 3 = .ok (.land, 1) := by decide +kernel
theorem dX0_pieceIn_4 : decode cX0_pieceIn 4 = .ok (.lload_n 0, 1) := by decide +kernel
theorem dX0_pieceIn_5 : decode cX0_pieceIn 5 = .ok (.invokestatic 114, 3) := by decide +kernel
theorem dX0_pieceIn_8 : decode cX0_pieceIn 8 = .ok (.lreturn, 1) := by decide +kernel
set_option maxRecDepth 20000 in
theorem ggX0_countPieces_X0_pieceIn : GoodIn wsX0_countPieces wsX0_pieceIn := goodIn_r _ [5, 6, 7, 4, 8, 9, 10, 11, 12, 13, 14, 15, 16, 17, 18, 19, 20, 21, 22, 23, 24, 25, 26] (by decide +kernel) (by decide +kernel)
set_option maxRecDepth 20000 in
theorem gX0_countPieces_X0_pieceIn : GoodIn wsX0_countPieces (va_wsS RX0 88 yX0_pieceIn wsX0_pieceIn) := goodIn_app (goodIn_of _ (by decide +kernel)) ggX0_countPieces_X0_pieceIn
theorem dX0_countPieces_0 : decode cX0_countPieces 0 = .ok (.lload_n 0, 1) := by decide +kernel
theorem dX0_countPieces_1 : decode cX0_countPieces 1 = .ok (.lstore_n 2, 1) := by decide +kernel
theorem dX0_countPieces_2 : decode cX0_countPieces 2 = .ok (.iconst 0, 1) := by decide +kernel
theorem dX0_countPieces_3 : decode cX0_countPieces 3 = .ok (.istore 4, 2) := by decide +kernel
theorem dX0_countPieces_5 : decode cX0_countPieces 5 = .ok (.iload 4, 2) := by decide +kernel
theorem dX0_countPieces_7 : decode cX0_countPieces 7 = .ok (.bipush 36, 2) := by decide +kernel
theorem dX0_countPieces_9 : decode cX0_countPieces 9 = .ok (.if_icmp .ge 26, 3) := by decide +kernel
theorem dX0_countPieces_12 : decode cX0_countPieces 12 = .ok (.lload_n 2, 1) := by decide +kernel
theorem dX0_countPieces_13 : decode cX0_countPieces 13 = .ok (.lconst 0, 1) := by decide +kernel
theorem dX0_countPieces_14 : decode cX0_countPieces 14 = .ok (.lcmp, 1) := by decide +kernel
theorem dX0_countPieces_15 : decode cX0_countPieces 15 = .ok (.ifCond .eq 20, 3) := by decide +kernel
theorem dX0_countPieces_18 : decode cX0_countPieces 18 = .ok (.lload_n 2, 1) := by decide +kernel
theorem dX0_countPieces_19 : decode cX0_countPieces 19 = .ok (.lload_n 2, 1) := by decide +kernel
theorem dX0_countPieces_20 : decode cX0_countPieces 20 = .ok (.invokestatic 88, 3) := by decide +kernel
theorem dX0_countPieces_23 : decode cX0_countPieces 23 = .ok (.ldc2_w 70, 3) := by decide +kernel
theorem dX0_countPieces_26 : decode cX0_countPieces 26 = .ok (.lxor, 1) := by decide +kernel
theorem dX0_countPieces_27 : decode cX0_countPieces 27 = .ok (.land, 1) := by decide +kernel
theorem dX0_countPieces_28 : decode cX0_countPieces 28 = .ok (.lstore_n 2, 1) := by decide +kernel
theorem dX0_countPieces_29 : decode cX0_countPieces 29 = .ok (.iinc 4 1, 3) := by decide +kernel
theorem dX0_countPieces_32 : decode cX0_countPieces 32 = .ok (.goto (-27), 3) := by decide +kernel
theorem dX0_countPieces_35 : decode cX0_countPieces 35 = .ok (.iload 4, 2) := by decide +kernel
theorem dX0_countPieces_37 : decode cX0_countPieces 37 = .ok (.ireturn, 1) := by decide +kernel
theorem dX0_cellsOf_0 : decode cX0_cellsOf 0 = .ok (.iload_n 1, 1) := by decide +kernel
theorem dX0_cellsOf_1 : decode cX0_cellsOf 1 = .ok (.ifCond .lt 16, 3) := by decide +kernel
theorem dX0_cellsOf_4 : decode cX0_cellsOf 4 = .ok (.iload_n 1, 1) := by decide +kernel
theorem dX0_cellsOf_5 : decode cX0_cellsOf 5 = .ok (.bipush 10, 2) := by decide +kernel
theorem dX0_cellsOf_7 : decode cX0_cellsOf 7 = .ok (.if_icmp .ge 10, 3) := by decide +kernel
theorem dX0_cellsOf_10 : decode cX0_cellsOf 10 = .ok (.aload_n 0, 1) := by decide +kernel
theorem dX0_cellsOf_11 : decode cX0_cellsOf 11 = .ok (.getfield 9, 3) := by decide +kernel
theorem dX0_cellsOf_14 : decode cX0_cellsOf 14 = .ok (.iload_n 1, 1) := by decide +kernel
theorem dX0_cellsOf_15 : decode cX0_cellsOf 15 = .ok (.laload, 1) := by decide +kernel
theorem dX0_cellsOf_16 : decode cX0_cellsOf 16 = .ok (.lreturn, 1) := by decide +kernel
theorem dX0_cellsOf_17 : decode cX0_cellsOf 17 = .ok (.ldc2_w 110, 3) := by decide +kernel
theorem dX0_cellsOf_20 : decode cX0_cellsOf 20 = .ok (.lstore_n 2, 1) := by decide +kernel
theorem dX0_cellsOf_21 : decode cX0_cellsOf 21 = .ok (.iconst 0, 1) := by decide +kernel
theorem dX0_cellsOf_22 : decode cX0_cellsOf 22 = .ok (.istore 4, 2) := by decide +kernel
theorem dX0_cellsOf_24 : decode cX0_cellsOf 24 = .ok (.iload 4, 2) := by decide +kernel
theorem dX0_cellsOf_26 : decode cX0_cellsOf 26 = .ok (.bipush 10, 2) := by decide +kernel
theorem dX0_cellsOf_28 : decode cX0_cellsOf 28 = .ok (.if_icmp .ge 23, 3) := by decide +kernel
theorem dX0_cellsOf_31 : decode cX0_cellsOf 31 = .ok (.lload_n 2, 1) := by decide +kernel
theorem dX0_cellsOf_32 : decode cX0_cellsOf 32 = .ok (.aload_n 0, 1) := by decide +kernel
theorem dX0_cellsOf_33 : decode cX0_cellsOf 33 = .ok (.getfield 9, 3) := by decide +kernel
theorem dX0_cellsOf_36 : decode cX0_cellsOf 36 = .ok (.iload 4, 2) := by decide +kernel
theorem dX0_cellsOf_38 : decode cX0_cellsOf 38 = .ok (.laload, 1) := by decide +kernel
theorem dX0_cellsOf_39 : decode cX0_cellsOf 39 = .ok (.ldc2_w 70, 3) := by decide +kernel
theorem dX0_cellsOf_42 : decode cX0_cellsOf 42 = .ok (.lxor, 1) := by decide +kernel
theorem dX0_cellsOf_43 : decode cX0_cellsOf 43 = .ok (.land, 1) := by decide +kernel
theorem dX0_cellsOf_44 : decode cX0_cellsOf 44 = .ok (.lstore_n 2, 1) := by decide +kernel
theorem dX0_cellsOf_45 : decode cX0_cellsOf 45 = .ok (.iinc 4 1, 3) := by decide +kernel
theorem dX0_cellsOf_48 : decode cX0_cellsOf 48 = .ok (.goto (-24), 3) := by decide +kernel
theorem dX0_cellsOf_51 : decode cX0_cellsOf 51 = .ok (.lload_n 2, 1) := by decide +kernel
theorem dX0_cellsOf_52 : decode cX0_cellsOf 52 = .ok (.lreturn, 1) := by decide +kernel
theorem dX0_ownerOf_0 : decode cX0_ownerOf 0 = .ok (.iconst 0, 1) := by decide +kernel
theorem dX0_ownerOf_1 : decode cX0_ownerOf 1 = .ok (.istore_n 3, 1) := by decide +kernel
theorem dX0_ownerOf_2 : decode cX0_ownerOf 2 = .ok (.iload_n 3, 1) := by decide +kernel
theorem dX0_ownerOf_3 : decode cX0_ownerOf 3 = .ok (.bipush 10, 2) := by decide +kernel
theorem dX0_ownerOf_5 : decode cX0_ownerOf 5 = .ok (.if_icmp .ge 24, 3) := by decide +kernel
theorem dX0_ownerOf_8 : decode cX0_ownerOf 8 = .ok (.aload_n 0, 1) := by decide +kernel
theorem dX0_ownerOf_9 : decode cX0_ownerOf 9 = .ok (.getfield 9, 3) := by decide +kernel
theorem dX0_ownerOf_12 : decode cX0_ownerOf 12 = .ok (.iload_n 3, 1) := by decide +kernel
theorem dX0_ownerOf_13 : decode cX0_ownerOf 13 = .ok (.laload, 1) := by decide +kernel
theorem dX0_ownerOf_14 : decode cX0_ownerOf 14 = .ok (.lload_n 1, 1) := by decide +kernel
theorem dX0_ownerOf_15 : decode cX0_ownerOf 15 = .ok (.land, 1) := by decide +kernel
theorem dX0_ownerOf_16 : decode cX0_ownerOf 16 = .ok (.lconst 0, 1) := by decide +kernel
theorem dX0_ownerOf_17 : decode cX0_ownerOf 17 = .ok (.lcmp, 1) := by decide +kernel
theorem dX0_ownerOf_18 : decode cX0_ownerOf 18 = .ok (.ifCond .eq 5, 3) := by decide +kernel
theorem dX0_ownerOf_21 : decode cX0_ownerOf 21 = .ok (.iload_n 3, 1) := by decide +kernel
theorem dX0_ownerOf_22 : decode cX0_ownerOf 22 = .ok (.ireturn, 1) := by decide +kernel
theorem dX0_ownerOf_23 : decode cX0_ownerOf 23 = .ok (.iinc 3 1, 3) := by decide +kernel
theorem dX0_ownerOf_26 : decode cX0_ownerOf 26 = .ok (.goto (-24), 3) := by decide +kernel
theorem dX0_ownerOf_29 : decode cX0_ownerOf 29 = .ok (.iconst (-1), 1) := by decide +kernel
theorem dX0_ownerOf_30 : decode cX0_ownerOf 30 = .ok (.ireturn, 1) := by decide +kernel
set_option maxRecDepth 20000 in
theorem ggX0_cover_X0_findNeighbours : GoodIn wsX0_cover wsX0_findNeighbours := goodIn_r _ [7, 8, 1, 9, 10, 11, 6, 12, 13, 14, 15, 16, 17, 18, 19, 20, 21, 22, 23, 24, 25, 26, 27, 28, 29, 30, 31, 32, 33, 34, 35, 36, 37, 38, 39] (by decide +kernel) (by decide +kernel)
set_option maxRecDepth 20000 in
theorem gX0_cover_X0_findNeighbours : GoodIn wsX0_cover (wsV RX0 203 RX0 yX0_findNeighbours wsX0_findNeighbours) := goodIn_app (goodIn_of _ (by decide +kernel)) ggX0_cover_X0_findNeighbours
theorem dX0_cover_0 : decode cX0_cover 0 = .ok (.iconst 0, 1) := by decide +kernel
theorem dX0_cover_1 : decode cX0_cover 1 = .ok (.istore 4, 2) := by decide +kernel
theorem dX0_cover_3 : decode cX0_cover 3 = .ok (.iload 4, 2) := by decide +kernel
theorem dX0_cover_5 : decode cX0_cover 5 = .ok (.bipush 10, 2) := by decide +kernel
theorem dX0_cover_7 : decode cX0_cover 7 = .ok (.if_icmp .ge 24, 3) := by decide +kernel
theorem dX0_cover_10 : decode cX0_cover 10 = .ok (.aload_n 0, 1) := by decide +kernel
theorem dX0_cover_11 : decode cX0_cover 11 = .ok (.getfield 9, 3) := by decide +kernel
theorem dX0_cover_14 : decode cX0_cover 14 = .ok (.iload 4, 2) := by decide +kernel
theorem dX0_cover_16 : decode cX0_cover 16 = .ok (.dup2, 1) := by decide +kernel
theorem dX0_cover_17 : decode cX0_cover 17 = .ok (.laload, 1) := by decide +kernel
theorem dX0_cover_18 : decode cX0_cover 18 = .ok (.lload_n 1, 1) := by decide +kernel
theorem dX0_cover_19 : decode cX0_cover 19 = .ok (.ldc2_w 70, 3) := by decide +kernel
theorem dX0_cover_22 : decode cX0_cover 22 = .ok (.lxor, 1) := by decide +kernel
theorem dX0_cover_23 : decode cX0_cover 23 = .ok (.land, 1) := by decide +kernel
theorem dX0_cover_24 : decode cX0_cover 24 = .ok (.lastore, 1) := by decide +kernel
theorem dX0_cover_25 : decode cX0_cover 25 = .ok (.iinc 4 1, 3) := by decide +kernel
theorem dX0_cover_28 : decode cX0_cover 28 = .ok (.goto (-25), 3) := by decide +kernel
theorem dX0_cover_31 : decode cX0_cover 31 = .ok (.iload_n 3, 1) := by decide +kernel
theorem dX0_cover_32 : decode cX0_cover 32 = .ok (.ifCond .lt 19, 3) := by decide +kernel
theorem dX0_cover_35 : decode cX0_cover 35 = .ok (.iload_n 3, 1) := by decide +kernel
theorem dX0_cover_36 : decode cX0_cover 36 = .ok (.bipush 10, 2) := by decide +kernel
theorem dX0_cover_38 : decode cX0_cover 38 = .ok (.if_icmp .ge 13, 3) := by decide +kernel
theorem dX0_cover_41 : decode cX0_cover 41 = .ok (.aload_n 0, 1) := by decide +kernel
theorem dX0_cover_42 : decode cX0_cover 42 = .ok (.getfield 9, 3) := by decide +kernel
theorem dX0_cover_45 : decode cX0_cover 45 = .ok (.iload_n 3, 1) := by decide +kernel
theorem dX0_cover_46 : decode cX0_cover 46 = .ok (.dup2, 1) := by decide +kernel
theorem dX0_cover_47 : decode cX0_cover 47 = .ok (.laload, 1) := by decide +kernel
theorem dX0_cover_48 : decode cX0_cover 48 = .ok (.lload_n 1, 1) := by decide +kernel
theorem dX0_cover_49 : decode cX0_cover 49 = .ok (.lor, 1) := by decide +kernel
theorem dX0_cover_50 : decode cX0_cover 50 = .ok (.lastore, 1) := by decide +kernel
theorem dX0_cover_51 : decode cX0_cover 51 = .ok (.aload_n 0, 1) := by decide +kernel
theorem dX0_cover_52 : decode cX0_cover 52 = .ok (.invokevirtual 203, 3) := by decide +kernel
theorem dX0_cover_55 : decode cX0_cover 55 = .ok (.return_, 1) := by decide +kernel
theorem dX0_has_0 : decode cX0_has 0 = .ok (.iload_n 0, 1) := by decide +kernel
theorem dX0_has_1 : decode cX0_has 1 = .ok (.iconst 1, 1) := by decide +kernel
theorem dX0_has_2 : decode cX0_has 2 = .ok (.iload_n 1, 1) := by decide +kernel
theorem dX0_has_3 : decode cX0_has 3 = .ok (.ishl, 1) := by decide +kernel
theorem dX0_has_4 : decode cX0_has 4 = .ok (.iand, 1) := by decide +kernel
theorem dX0_has_5 : decode cX0_has 5 = .ok (.ifCond .eq 7, 3) := by decide +kernel
theorem dX0_has_8 : decode cX0_has 8 = .ok (.iconst 1, 1) := by decide +kernel
theorem dX0_has_9 : decode cX0_has 9 = .ok (.goto 4, 3) := by decide +kernel
theorem dX0_has_12 : decode cX0_has 12 = .ok (.iconst 0, 1) := by decide +kernel
theorem dX0_has_13 : decode cX0_has 13 = .ok (.ireturn, 1) := by decide +kernel
set_option maxRecDepth 20000 in
theorem ggX0_findNeighbours_X0_spread : GoodIn wsX0_findNeighbours wsX0_spread := goodIn_r _ [7, 8, 9, 6, 10, 11, 12, 13, 14, 15, 16, 17, 18, 19, 20, 21, 22] (by decide +kernel) (by decide +kernel)
set_option maxRecDepth 20000 in
theorem gX0_findNeighbours_X0_spread : GoodIn wsX0_findNeighbours (va_wsS RX0 200 yX0_spread wsX0_spread) := goodIn_app (goodIn_of _ (by decide +kernel)) ggX0_findNeighbours_X0_spread
set_option maxRecDepth 20000 in
theorem ggX0_findNeighbours_X0_thoseIn : GoodIn wsX0_findNeighbours wsX0_thoseIn := goodIn_r _ [26, 2, 27, 28, 29, 30, 31, 32, 33, 34] (by decide +kernel) (by decide +kernel)
set_option maxRecDepth 20000 in
theorem gX0_findNeighbours_X0_thoseIn : GoodIn wsX0_findNeighbours (wsV RX0 206 RX0 yX0_thoseIn wsX0_thoseIn) := goodIn_app (goodIn_of _ (by decide +kernel)) ggX0_findNeighbours_X0_thoseIn
theorem dX0_findNeighbours_0 : decode cX0_findNeighbours 0 = .ok (.aload_n 0, 1) := by decide +kernel
theorem dX0_findNeighbours_1 : decode cX0_findNeighbours 1 = .ok (.iconst 0, 1) := by decide +kernel
theorem dX0_findNeighbours_2 : decode cX0_findNeighbours 2 = .ok (.putfield 13, 3) := by decide +kernel
theorem dX0_findNeighbours_5 : decode cX0_findNeighbours 5 = .ok (.iconst 0, 1) := by decide +kernel
theorem dX0_findNeighbours_6 : decode cX0_findNeighbours 6 = .ok (.istore_n 1, 1) := by decide +kernel
theorem dX0_findNeighbours_7 : decode cX0_findNeighbours 7 = .ok (.iload_n 1, 1) := by decide +kernel
theorem dX0_findNeighbours_8 : decode cX0_findNeighbours 8 = .ok (.bipush 10, 2) := by decide +kernel
theorem dX0_findNeighbours_10 : decode cX0_findNeighbours 10 = .ok (.if_icmp .ge 57, 3) := by decide +kernel
theorem dX0_findNeighbours_13 : decode cX0_findNeighbours 13 = .ok (.aload_n 0, 1) := by decide +kernel
theorem dX0_findNeighbours_14 : decode cX0_findNeighbours 14 = .ok (.getfield 9, 3) := by decide +kernel
theorem dX0_findNeighbours_17 : decode cX0_findNeighbours 17 = .ok (.iload_n 1, 1) := by decide +kernel
theorem dX0_findNeighbours_18 : decode cX0_findNeighbours 18 = .ok (.laload, 1) := by decide +kernel
theorem dX0_findNeighbours_19 : decode cX0_findNeighbours 19 = .ok (.lconst 0, 1) := by decide +kernel
theorem dX0_findNeighbours_20 : decode cX0_findNeighbours 20 = .ok (.lcmp, 1) := by decide +kernel
theorem dX0_findNeighbours_21 : decode cX0_findNeighbours 21 = .ok (.ifCond .eq 15, 3) := by decide +kernel
theorem dX0_findNeighbours_24 : decode cX0_findNeighbours 24 = .ok (.aload_n 0, 1) := by decide +kernel
theorem dX0_findNeighbours_25 : decode cX0_findNeighbours 25 = .ok (.dup, 1) := by decide +kernel
theorem dX0_findNeighbours_26 : decode cX0_findNeighbours 26 = .ok (.getfield 13, 3) := by decide +kernel
theorem dX0_findNeighbours_29 : decode cX0_findNeighbours 29 = .ok (.iconst 1, 1) := by decide +kernel
theorem dX0_findNeighbours_30 : decode cX0_findNeighbours 30 = .ok (.iload_n 1, 1) := by decide +kernel
theorem dX0_findNeighbours_31 : decode cX0_findNeighbours 31 = .ok (.ishl, 1) := by decide +kernel
theorem dX0_findNeighbours_32 : decode cX0_findNeighbours 32 = .ok (.ior, 1) := by decide +kernel
theorem dX0_findNeighbours_33 : decode cX0_findNeighbours 33 = .ok (.putfield 13, 3) := by decide +kernel
theorem dX0_findNeighbours_36 : decode cX0_findNeighbours 36 = .ok (.aload_n 0, 1) := by decide +kernel
theorem dX0_findNeighbours_37 : decode cX0_findNeighbours 37 = .ok (.getfield 17, 3) := by decide +kernel
theorem dX0_findNeighbours_40 : decode cX0_findNeighbours 40 = .ok (.iload_n 1, 1) := by decide +kernel
theorem dX0_findNeighbours_41 : decode cX0_findNeighbours 41 = .ok (.aload_n 0, 1) := by decide +kernel
theorem dX0_findNeighbours_42 : decode cX0_findNeighbours 42 = .ok (.aload_n 0, 1) := by decide +kernel
theorem dX0_findNeighbours_43 : decode cX0_findNeighbours 43 = .ok (.getfield 9, 3) := by decide +kernel
theorem dX0_findNeighbours_46 : decode cX0_findNeighbours 46 = .ok (.iload_n 1, 1) := by decide +kernel
theorem dX0_findNeighbours_47 : decode cX0_findNeighbours 47 = .ok (.laload, 1) := by decide +kernel
theorem dX0_findNeighbours_48 : decode cX0_findNeighbours 48 = .ok (.invokestatic 200, 3) := by decide +kernel
theorem dX0_findNeighbours_51 : decode cX0_findNeighbours 51 = .ok (.invokevirtual 206, 3) := by decide +kernel
theorem dX0_findNeighbours_54 : decode cX0_findNeighbours 54 = .ok (.iconst 1, 1) := by decide +kernel
theorem dX0_findNeighbours_55 : decode cX0_findNeighbours 55 = .ok (.iload_n 1, 1) := by decide +kernel
theorem dX0_findNeighbours_56 : decode cX0_findNeighbours 56 = .ok (.ishl, 1) := by decide +kernel
theorem dX0_findNeighbours_57 : decode cX0_findNeighbours 57 = .ok (.iconst (-1), 1) := by decide +kernel
theorem dX0_findNeighbours_58 : decode cX0_findNeighbours 58 = .ok (.ixor, 1) := by decide +kernel
theorem dX0_findNeighbours_59 : decode cX0_findNeighbours 59 = .ok (.iand, 1) := by decide +kernel
theorem dX0_findNeighbours_60 : decode cX0_findNeighbours 60 = .ok (.iastore, 1) := by decide +kernel
theorem dX0_findNeighbours_61 : decode cX0_findNeighbours 61 = .ok (.iinc 1 1, 3) := by decide +kernel
theorem dX0_findNeighbours_64 : decode cX0_findNeighbours 64 = .ok (.goto (-57), 3) := by decide +kernel
theorem dX0_findNeighbours_67 : decode cX0_findNeighbours 67 = .ok (.return_, 1) := by decide +kernel
theorem dX0_thoseIn_0 : decode cX0_thoseIn 0 = .ok (.iconst 0, 1) := by decide +kernel
theorem dX0_thoseIn_1 : decode cX0_thoseIn 1 = .ok (.istore_n 3, 1) := by decide +kernel
theorem dX0_thoseIn_2 : decode cX0_thoseIn 2 = .ok (.iconst 0, 1) := by decide +kernel
theorem dX0_thoseIn_3 : decode cX0_thoseIn 3 = .ok (.istore 4, 2) := by decide +kernel
theorem dX0_thoseIn_5 : decode cX0_thoseIn 5 = .ok (.iload 4, 2) := by decide +kernel
theorem dX0_thoseIn_7 : decode cX0_thoseIn 7 = .ok (.bipush 10, 2) := by decide +kernel
theorem dX0_thoseIn_9 : decode cX0_thoseIn 9 = .ok (.if_icmp .ge 30, 3) := by decide +kernel
theorem dX0_thoseIn_12 : decode cX0_thoseIn 12 = .ok (.aload_n 0, 1) := by decide +kernel
theorem dX0_thoseIn_13 : decode cX0_thoseIn 13 = .ok (.getfield 9, 3) := by decide +kernel
theorem dX0_thoseIn_16 : decode cX0_thoseIn 16 = .ok (.iload 4, 2) := by decide +kernel
theorem dX0_thoseIn_18 : decode cX0_thoseIn 18 = .ok (.laload, 1) := by decide +kernel
theorem dX0_thoseIn_19 : decode cX0_thoseIn 19 = .ok (.lload_n 1, 1) := by decide +kernel
theorem dX0_thoseIn_20 : decode cX0_thoseIn 20 = .ok (.land, 1) := by decide +kernel
theorem dX0_thoseIn_21 : decode cX0_thoseIn 21 = .ok (.lconst 0, 1) := by decide +kernel
theorem dX0_thoseIn_22 : decode cX0_thoseIn 22 = .ok (.lcmp, 1) := by decide +kernel
theorem dX0_thoseIn_23 : decode cX0_thoseIn 23 = .ok (.ifCond .eq 10, 3) := by decide +kernel
theorem dX0_thoseIn_26 : decode cX0_thoseIn 26 = .ok (.iload_n 3, 1) := by decide +kernel
theorem dX0_thoseIn_27 : decode cX0_thoseIn 27 = .ok (.iconst 1, 1) := by decide +kernel
theorem dX0_thoseIn_28 : decode cX0_thoseIn 28 = .ok (.iload 4, 2) := by decide +kernel
theorem dX0_thoseIn_30 : decode cX0_thoseIn 30 = .ok (.ishl, 1) := by decide +kernel
theorem dX0_thoseIn_31 : decode cX0_thoseIn 31 = .ok (.ior, 1) := by decide +kernel
theorem dX0_thoseIn_32 : decode cX0_thoseIn 32 = .ok (.istore_n 3, 1) := by decide +kernel
theorem dX0_thoseIn_33 : decode cX0_thoseIn 33 = .ok (.iinc 4 1, 3) := by decide +kernel
theorem dX0_thoseIn_36 : decode cX0_thoseIn 36 = .ok (.goto (-31), 3) := by decide +kernel
theorem dX0_thoseIn_39 : decode cX0_thoseIn 39 = .ok (.iload_n 3, 1) := by decide +kernel
theorem dX0_thoseIn_40 : decode cX0_thoseIn 40 = .ok (.ireturn, 1) := by decide +kernel
set_option maxRecDepth 20000 in
theorem ggX0_withNeighbours_X0_has : GoodIn wsX0_withNeighbours wsX0_has := goodIn_r _ [6] (by decide +kernel) (by decide +kernel)
set_option maxRecDepth 20000 in
theorem gX0_withNeighbours_X0_has : GoodIn wsX0_withNeighbours (va_wsS RX0 140 yX0_has wsX0_has) := goodIn_app (goodIn_of _ (by decide +kernel)) ggX0_withNeighbours_X0_has
set_option maxRecDepth 20000 in
theorem ggX0_withNeighbours_J6_bitCount_0f7a4 : GoodIn wsX0_withNeighbours wsJ6_bitCount_0f7a4 := goodIn_r _ [10, 11, 12, 13] (by decide +kernel) (by decide +kernel)
set_option maxRecDepth 20000 in
theorem gX0_withNeighbours_J6_bitCount_0f7a4 : GoodIn wsX0_withNeighbours (va_wsS RX0 77 yJ6_bitCount_0f7a4 wsJ6_bitCount_0f7a4) := goodIn_app (goodIn_of _ (by decide +kernel)) ggX0_withNeighbours_J6_bitCount_0f7a4
theorem dX0_withNeighbours_0 : decode cX0_withNeighbours 0 = .ok (.iconst 0, 1) := by decide +kernel
theorem dX0_withNeighbours_1 : decode cX0_withNeighbours 1 = .ok (.istore_n 2, 1) := by decide +kernel
theorem dX0_withNeighbours_2 : decode cX0_withNeighbours 2 = .ok (.iconst 0, 1) := by decide +kernel
theorem dX0_withNeighbours_3 : decode cX0_withNeighbours 3 = .ok (.istore_n 3, 1) := by decide +kernel
theorem dX0_withNeighbours_4 : decode cX0_withNeighbours 4 = .ok (.iload_n 3, 1) := by decide +kernel
theorem dX0_withNeighbours_5 : decode cX0_withNeighbours 5 = .ok (.bipush 10, 2) := by decide +kernel
theorem dX0_withNeighbours_7 : decode cX0_withNeighbours 7 = .ok (.if_icmp .ge 39, 3) := by decide +kernel
theorem dX0_withNeighbours_10 : decode cX0_withNeighbours 10 = .ok (.aload_n 0, 1) := by decide +kernel
theorem dX0_withNeighbours_11 : decode cX0_withNeighbours 11 = .ok (.getfield 13, 3) := by decide +kernel
theorem dX0_withNeighbours_14 : decode cX0_withNeighbours 14 = .ok (.iload_n 3, 1) := by decide +kernel
theorem dX0_withNeighbours_15 : decode cX0_withNeighbours 15 = .ok (.invokestatic 140, 3) := by decide +kernel
theorem dX0_withNeighbours_18 : decode cX0_withNeighbours 18 = .ok (.ifCond .eq 22, 3) := by decide +kernel
theorem dX0_withNeighbours_21 : decode cX0_withNeighbours 21 = .ok (.aload_n 0, 1) := by decide +kernel
theorem dX0_withNeighbours_22 : decode cX0_withNeighbours 22 = .ok (.getfield 17, 3) := by decide +kernel
theorem dX0_withNeighbours_25 : decode cX0_withNeighbours 25 = .ok (.iload_n 3, 1) := by decide +kernel
theorem dX0_withNeighbours_26 : decode cX0_withNeighbours 26 = .ok (.iaload, 1) := by decide +kernel
theorem dX0_withNeighbours_27 : decode cX0_withNeighbours 27 = .ok (.invokestatic 77, 3) := by decide +kernel
theorem dX0_withNeighbours_30 : decode cX0_withNeighbours 30 = .ok (.iload_n 1, 1) := by decide +kernel
theorem dX0_withNeighbours_31 : decode cX0_withNeighbours 31 = .ok (.if_icmp .ne 9, 3) := by decide +kernel
theorem dX0_withNeighbours_34 : decode cX0_withNeighbours 34 = .ok (.iload_n 2, 1) := by decide +kernel
theorem dX0_withNeighbours_35 : decode cX0_withNeighbours 35 = .ok (.iconst 1, 1) := by decide +kernel
theorem dX0_withNeighbours_36 : decode cX0_withNeighbours 36 = .ok (.iload_n 3, 1) := by decide +kernel
theorem dX0_withNeighbours_37 : decode cX0_withNeighbours 37 = .ok (.ishl, 1) := by decide +kernel
theorem dX0_withNeighbours_38 : decode cX0_withNeighbours 38 = .ok (.ior, 1) := by decide +kernel
theorem dX0_withNeighbours_39 : decode cX0_withNeighbours 39 = .ok (.istore_n 2, 1) := by decide +kernel
theorem dX0_withNeighbours_40 : decode cX0_withNeighbours 40 = .ok (.iinc 3 1, 3) := by decide +kernel
theorem dX0_withNeighbours_43 : decode cX0_withNeighbours 43 = .ok (.goto (-39), 3) := by decide +kernel
theorem dX0_withNeighbours_46 : decode cX0_withNeighbours 46 = .ok (.iload_n 2, 1) := by decide +kernel
theorem dX0_withNeighbours_47 : decode cX0_withNeighbours 47 = .ok (.ireturn, 1) := by decide +kernel
theorem dX0_markSetsOfNeighbours_0 : decode cX0_markSetsOfNeighbours 0 = .ok (.aload_n 0, 1) := by decide +kernel
theorem dX0_markSetsOfNeighbours_1 : decode cX0_markSetsOfNeighbours 1 = .ok (.getfield 27, 3) := by decide +kernel
theorem dX0_markSetsOfNeighbours_4 : decode cX0_markSetsOfNeighbours 4 = .ok (.iconst 0, 1) := by decide +kernel
theorem dX0_markSetsOfNeighbours_5 : decode cX0_markSetsOfNeighbours 5 = .ok (.iconst 1, 1) := by decide +kernel
theorem dX0_markSetsOfNeighbours_6 : decode cX0_markSetsOfNeighbours 6 = .ok (.bastore, 1) := by decide +kernel
theorem dX0_markSetsOfNeighbours_7 : decode cX0_markSetsOfNeighbours 7 = .ok (.iconst 0, 1) := by decide +kernel
theorem dX0_markSetsOfNeighbours_8 : decode cX0_markSetsOfNeighbours 8 = .ok (.istore_n 1, 1) := by decide +kernel
theorem dX0_markSetsOfNeighbours_9 : decode cX0_markSetsOfNeighbours 9 = .ok (.iload_n 1, 1) := by decide +kernel
theorem dX0_markSetsOfNeighbours_10 : decode cX0_markSetsOfNeighbours 10 = .ok (.bipush 10, 2) := by decide +kernel
theorem dX0_markSetsOfNeighbours_12 : decode cX0_markSetsOfNeighbours 12 = .ok (.if_icmp .ge 61, 3) := by decide +kernel
theorem dX0_markSetsOfNeighbours_15 : decode cX0_markSetsOfNeighbours 15 = .ok (.iconst 0, 1) := by decide +kernel
theorem dX0_markSetsOfNeighbours_16 : decode cX0_markSetsOfNeighbours 16 = .ok (.istore_n 2, 1) := by decide +kernel
theorem dX0_markSetsOfNeighbours_17 : decode cX0_markSetsOfNeighbours 17 = .ok (.iload_n 2, 1) := by decide +kernel
theorem dX0_markSetsOfNeighbours_18 : decode cX0_markSetsOfNeighbours 18 = .ok (.iconst 1, 1) := by decide +kernel
theorem dX0_markSetsOfNeighbours_19 : decode cX0_markSetsOfNeighbours 19 = .ok (.iload_n 1, 1) := by decide +kernel
theorem dX0_markSetsOfNeighbours_20 : decode cX0_markSetsOfNeighbours 20 = .ok (.ishl, 1) := by decide +kernel
theorem dX0_markSetsOfNeighbours_21 : decode cX0_markSetsOfNeighbours 21 = .ok (.if_icmp .ge 46, 3) := by decide +kernel
theorem dX0_markSetsOfNeighbours_24 : decode cX0_markSetsOfNeighbours 24 = .ok (.aload_n 0, 1) := by decide +kernel
theorem dX0_markSetsOfNeighbours_25 : decode cX0_markSetsOfNeighbours 25 = .ok (.getfield 27, 3) := by decide +kernel
theorem dX0_markSetsOfNeighbours_28 : decode cX0_markSetsOfNeighbours 28 = .ok (.iload_n 2, 1) := by decide +kernel
theorem dX0_markSetsOfNeighbours_29 : decode cX0_markSetsOfNeighbours 29 = .ok (.iconst 1, 1) := by decide +kernel
theorem dX0_markSetsOfNeighbours_30 : decode cX0_markSetsOfNeighbours 30 = .ok (.iload_n 1, 1) := by decide +kernel
theorem dX0_markSetsOfNeighbours_31 : decode cX0_markSetsOfNeighbours 31 = .ok (.ishl, 1) := by decide +kernel
theorem dX0_markSetsOfNeighbours_32 : decode cX0_markSetsOfNeighbours 32 = .ok (.ior, 1) := by decide +kernel
theorem dX0_markSetsOfNeighbours_33 : decode cX0_markSetsOfNeighbours 33 = .ok (.aload_n 0, 1) := by decide +kernel
theorem dX0_markSetsOfNeighbours_34 : decode cX0_markSetsOfNeighbours 34 = .ok (.getfield 27, 3) := by decide +kernel
theorem dX0_markSetsOfNeighbours_37 : decode cX0_markSetsOfNeighbours 37 = .ok (.iload_n 2, 1) := by decide +kernel
theorem dX0_markSetsOfNeighbours_38 : decode cX0_markSetsOfNeighbours 38 = .ok (.baload, 1) := by decide +kernel
theorem dX0_markSetsOfNeighbours_39 : decode cX0_markSetsOfNeighbours 39 = .ok (.ifCond .eq 20, 3) := by decide +kernel
theorem dX0_markSetsOfNeighbours_42 : decode cX0_markSetsOfNeighbours 42 = .ok (.iload_n 2, 1) := by decide +kernel
theorem dX0_markSetsOfNeighbours_43 : decode cX0_markSetsOfNeighbours 43 = .ok (.aload_n 0, 1) := by decide +kernel
theorem dX0_markSetsOfNeighbours_44 : decode cX0_markSetsOfNeighbours 44 = .ok (.getfield 17, 3) := by decide +kernel
theorem dX0_markSetsOfNeighbours_47 : decode cX0_markSetsOfNeighbours 47 = .ok (.iload_n 1, 1) := by decide +kernel
theorem dX0_markSetsOfNeighbours_48 : decode cX0_markSetsOfNeighbours 48 = .ok (.iaload, 1) := by decide +kernel
theorem dX0_markSetsOfNeighbours_49 : decode cX0_markSetsOfNeighbours 49 = .ok (.iconst (-1), 1) := by decide +kernel
theorem dX0_markSetsOfNeighbours_50 : decode cX0_markSetsOfNeighbours 50 = .ok (.ixor, 1) := by decide +kernel
theorem dX0_markSetsOfNeighbours_51 : decode cX0_markSetsOfNeighbours 51 = .ok (.iand, 1) := by decide +kernel
theorem dX0_markSetsOfNeighbours_52 : decode cX0_markSetsOfNeighbours 52 = .ok (.ifCond .ne 7, 3) := by decide +kernel
theorem dX0_markSetsOfNeighbours_55 : decode cX0_markSetsOfNeighbours 55 = .ok (.iconst 1, 1) := by decide +kernel
theorem dX0_markSetsOfNeighbours_56 : decode cX0_markSetsOfNeighbours 56 = .ok (.goto 4, 3) := by decide +kernel
theorem dX0_markSetsOfNeighbours_59 : decode cX0_markSetsOfNeighbours 59 = .ok (.iconst 0, 1) := by decide +kernel
theorem dX0_markSetsOfNeighbours_60 : decode cX0_markSetsOfNeighbours 60 = .ok (.bastore, 1) := by decide +kernel
theorem dX0_markSetsOfNeighbours_61 : decode cX0_markSetsOfNeighbours 61 = .ok (.iinc 2 1, 3) := by decide +kernel
theorem dX0_markSetsOfNeighbours_64 : decode cX0_markSetsOfNeighbours 64 = .ok (.goto (-47), 3) := by decide +kernel
theorem dX0_markSetsOfNeighbours_67 : decode cX0_markSetsOfNeighbours 67 = .ok (.iinc 1 1, 3) := by decide +kernel
theorem dX0_markSetsOfNeighbours_70 : decode cX0_markSetsOfNeighbours 70 = .ok (.goto (-61), 3) := by decide +kernel
theorem dX0_markSetsOfNeighbours_73 : decode cX0_markSetsOfNeighbours 73 = .ok (.return_, 1) := by decide +kernel
theorem dX0_markSetsWithoutNeighbours_0 : decode cX0_markSetsWithoutNeighbours 0 = .ok (.aload_n 0, 1) := by decide +kernel
theorem dX0_markSetsWithoutNeighbours_1 : decode cX0_markSetsWithoutNeighbours 1 = .ok (.getfield 27, 3) := by decide +kernel
theorem dX0_markSetsWithoutNeighbours_4 : decode cX0_markSetsWithoutNeighbours 4 = .ok (.iconst 0, 1) := by decide +kernel
theorem dX0_markSetsWithoutNeighbours_5 : decode cX0_markSetsWithoutNeighbours 5 = .ok (.iconst 1, 1) := by decide +kernel
theorem dX0_markSetsWithoutNeighbours_6 : decode cX0_markSetsWithoutNeighbours 6 = .ok (.bastore, 1) := by decide +kernel
theorem dX0_markSetsWithoutNeighbours_7 : decode cX0_markSetsWithoutNeighbours 7 = .ok (.iconst 0, 1) := by decide +kernel
theorem dX0_markSetsWithoutNeighbours_8 : decode cX0_markSetsWithoutNeighbours 8 = .ok (.istore_n 1, 1) := by decide +kernel
theorem dX0_markSetsWithoutNeighbours_9 : decode cX0_markSetsWithoutNeighbours 9 = .ok (.iload_n 1, 1) := by decide +kernel
theorem dX0_markSetsWithoutNeighbours_10 : decode cX0_markSetsWithoutNeighbours 10 = .ok (.bipush 10, 2) := by decide +kernel
theorem dX0_markSetsWithoutNeighbours_12 : decode cX0_markSetsWithoutNeighbours 12 = .ok (.if_icmp .ge 59, 3) := by decide +kernel
theorem dX0_markSetsWithoutNeighbours_15 : decode cX0_markSetsWithoutNeighbours 15 = .ok (.iconst 0, 1) := by decide +kernel
theorem dX0_markSetsWithoutNeighbours_16 : decode cX0_markSetsWithoutNeighbours 16 = .ok (.istore_n 2, 1) := by decide +kernel
theorem dX0_markSetsWithoutNeighbours_17 : decode cX0_markSetsWithoutNeighbours 17 = .ok (.iload_n 2, 1) := by decide +kernel
theorem dX0_markSetsWithoutNeighbours_18 : decode cX0_markSetsWithoutNeighbours 18 = .ok (.iconst 1, 1) := by decide +kernel
theorem dX0_markSetsWithoutNeighbours_19 : decode cX0_markSetsWithoutNeighbours 19 = .ok (.iload_n 1, 1) := by decide +kernel
theorem dX0_markSetsWithoutNeighbours_20 : decode cX0_markSetsWithoutNeighbours 20 = .ok (.ishl, 1) := by decide +kernel
theorem dX0_markSetsWithoutNeighbours_21 : decode cX0_markSetsWithoutNeighbours 21 = .ok (.if_icmp .ge 44, 3) := by decide +kernel
theorem dX0_markSetsWithoutNeighbours_24 : decode cX0_markSetsWithoutNeighbours 24 = .ok (.aload_n 0, 1) := by decide +kernel
theorem dX0_markSetsWithoutNeighbours_25 : decode cX0_markSetsWithoutNeighbours 25 = .ok (.getfield 27, 3) := by decide +kernel
theorem dX0_markSetsWithoutNeighbours_28 : decode cX0_markSetsWithoutNeighbours 28 = .ok (.iload_n 2, 1) := by decide +kernel
theorem dX0_markSetsWithoutNeighbours_29 : decode cX0_markSetsWithoutNeighbours 29 = .ok (.iconst 1, 1) := by decide +kernel
theorem dX0_markSetsWithoutNeighbours_30 : decode cX0_markSetsWithoutNeighbours 30 = .ok (.iload_n 1, 1) := by decide +kernel
theorem dX0_markSetsWithoutNeighbours_31 : decode cX0_markSetsWithoutNeighbours 31 = .ok (.ishl, 1) := by decide +kernel
theorem dX0_markSetsWithoutNeighbours_32 : decode cX0_markSetsWithoutNeighbours 32 = .ok (.ior, 1) := by decide +kernel
theorem dX0_markSetsWithoutNeighbours_33 : decode cX0_markSetsWithoutNeighbours 33 = .ok (.aload_n 0, 1) := by decide +kernel
theorem dX0_markSetsWithoutNeighbours_34 : decode cX0_markSetsWithoutNeighbours 34 = .ok (.getfield 27, 3) := by decide +kernel
theorem dX0_markSetsWithoutNeighbours_37 : decode cX0_markSetsWithoutNeighbours 37 = .ok (.iload_n 2, 1) := by decide +kernel
theorem dX0_markSetsWithoutNeighbours_38 : decode cX0_markSetsWithoutNeighbours 38 = .ok (.baload, 1) := by decide +kernel
theorem dX0_markSetsWithoutNeighbours_39 : decode cX0_markSetsWithoutNeighbours 39 = .ok (.ifCond .eq 18, 3) := by decide +kernel
theorem dX0_markSetsWithoutNeighbours_42 : decode cX0_markSetsWithoutNeighbours 42 = .ok (.iload_n 2, 1) := by decide +kernel
theorem dX0_markSetsWithoutNeighbours_43 : decode cX0_markSetsWithoutNeighbours 43 = .ok (.aload_n 0, 1) := by decide +kernel
theorem dX0_markSetsWithoutNeighbours_44 : decode cX0_markSetsWithoutNeighbours 44 = .ok (.getfield 17, 3) := by decide +kernel
theorem dX0_markSetsWithoutNeighbours_47 : decode cX0_markSetsWithoutNeighbours 47 = .ok (.iload_n 1, 1) := by decide +kernel
theorem dX0_markSetsWithoutNeighbours_48 : decode cX0_markSetsWithoutNeighbours 48 = .ok (.iaload, 1) := by decide +kernel
theorem dX0_markSetsWithoutNeighbours_49 : decode cX0_markSetsWithoutNeighbours 49 = .ok (.iand, 1) := by decide +kernel
theorem dX0_markSetsWithoutNeighbours_50 : decode cX0_markSetsWithoutNeighbours 50 = .ok (.ifCond .ne 7, 3) := by decide +kernel
theorem dX0_markSetsWithoutNeighbours_53 : decode cX0_markSetsWithoutNeighbours 53 = .ok (.iconst 1, 1) := by decide +kernel
theorem dX0_markSetsWithoutNeighbours_54 : decode cX0_markSetsWithoutNeighbours 54 = .ok (.goto 4, 3) := by decide +kernel
theorem dX0_markSetsWithoutNeighbours_57 : decode cX0_markSetsWithoutNeighbours 57 = .ok (.iconst 0, 1) := by decide +kernel
theorem dX0_markSetsWithoutNeighbours_58 : decode cX0_markSetsWithoutNeighbours 58 = .ok (.bastore, 1) := by decide +kernel
theorem dX0_markSetsWithoutNeighbours_59 : decode cX0_markSetsWithoutNeighbours 59 = .ok (.iinc 2 1, 3) := by decide +kernel
theorem dX0_markSetsWithoutNeighbours_62 : decode cX0_markSetsWithoutNeighbours 62 = .ok (.goto (-45), 3) := by decide +kernel
theorem dX0_markSetsWithoutNeighbours_65 : decode cX0_markSetsWithoutNeighbours 65 = .ok (.iinc 1 1, 3) := by decide +kernel
theorem dX0_markSetsWithoutNeighbours_68 : decode cX0_markSetsWithoutNeighbours 68 = .ok (.goto (-59), 3) := by decide +kernel
theorem dX0_markSetsWithoutNeighbours_71 : decode cX0_markSetsWithoutNeighbours 71 = .ok (.return_, 1) := by decide +kernel
theorem dX0_wearing_0 : decode cX0_wearing 0 = .ok (.iconst 0, 1) := by decide +kernel
theorem dX0_wearing_1 : decode cX0_wearing 1 = .ok (.istore_n 2, 1) := by decide +kernel
theorem dX0_wearing_2 : decode cX0_wearing 2 = .ok (.iconst 0, 1) := by decide +kernel
theorem dX0_wearing_3 : decode cX0_wearing 3 = .ok (.istore_n 3, 1) := by decide +kernel
theorem dX0_wearing_4 : decode cX0_wearing 4 = .ok (.iload_n 3, 1) := by decide +kernel
theorem dX0_wearing_5 : decode cX0_wearing 5 = .ok (.bipush 10, 2) := by decide +kernel
theorem dX0_wearing_7 : decode cX0_wearing 7 = .ok (.if_icmp .ge 25, 3) := by decide +kernel
theorem dX0_wearing_10 : decode cX0_wearing 10 = .ok (.aload_n 0, 1) := by decide +kernel
theorem dX0_wearing_11 : decode cX0_wearing 11 = .ok (.getfield 21, 3) := by decide +kernel
theorem dX0_wearing_14 : decode cX0_wearing 14 = .ok (.iload_n 3, 1) := by decide +kernel
theorem dX0_wearing_15 : decode cX0_wearing 15 = .ok (.iaload, 1) := by decide +kernel
theorem dX0_wearing_16 : decode cX0_wearing 16 = .ok (.iload_n 1, 1) := by decide +kernel
theorem dX0_wearing_17 : decode cX0_wearing 17 = .ok (.if_icmp .ne 9, 3) := by decide +kernel
theorem dX0_wearing_20 : decode cX0_wearing 20 = .ok (.iload_n 2, 1) := by decide +kernel
theorem dX0_wearing_21 : decode cX0_wearing 21 = .ok (.iconst 1, 1) := by decide +kernel
theorem dX0_wearing_22 : decode cX0_wearing 22 = .ok (.iload_n 3, 1) := by decide +kernel
theorem dX0_wearing_23 : decode cX0_wearing 23 = .ok (.ishl, 1) := by decide +kernel
theorem dX0_wearing_24 : decode cX0_wearing 24 = .ok (.ior, 1) := by decide +kernel
theorem dX0_wearing_25 : decode cX0_wearing 25 = .ok (.istore_n 2, 1) := by decide +kernel
theorem dX0_wearing_26 : decode cX0_wearing 26 = .ok (.iinc 3 1, 3) := by decide +kernel
theorem dX0_wearing_29 : decode cX0_wearing 29 = .ok (.goto (-25), 3) := by decide +kernel
theorem dX0_wearing_32 : decode cX0_wearing 32 = .ok (.iload_n 2, 1) := by decide +kernel
theorem dX0_wearing_33 : decode cX0_wearing 33 = .ok (.ireturn, 1) := by decide +kernel
set_option maxRecDepth 20000 in
theorem ggX0_leastFreeBeside_X0_wearing : GoodIn wsX0_leastFreeBeside wsX0_wearing := goodIn_r _ [5, 6, 7, 8, 9, 10, 11, 12, 13, 14] (by decide +kernel) (by decide +kernel)
set_option maxRecDepth 20000 in
theorem gX0_leastFreeBeside_X0_wearing : GoodIn wsX0_leastFreeBeside (wsV RX0 124 RX0 yX0_wearing wsX0_wearing) := goodIn_app (goodIn_of _ (by decide +kernel)) ggX0_leastFreeBeside_X0_wearing
theorem dX0_leastFreeBeside_0 : decode cX0_leastFreeBeside 0 = .ok (.iconst 1, 1) := by decide +kernel
end
section
theorem dX0_leastFreeBeside_1 : decode cX0_leastFreeBeside 1 = .ok (.istore_n 2, 1) := by decide +kernel
theorem dX0_leastFreeBeside_2 : decode cX0_leastFreeBeside 2 = .ok (.iload_n 2, 1) := by decide +kernel
theorem dX0_leastFreeBeside_3 : decode cX0_leastFreeBeside 3 = .ok (.bipush 10, 2) := by decide +kernel
theorem dX0_leastFreeBeside_5 : decode cX0_leastFreeBeside 5 = .ok (.if_icmp .ge 21, 3) := by decide +kernel
theorem dX0_leastFreeBeside_8 : decode cX0_leastFreeBeside 8 = .ok (.aload_n 0, 1) := by decide +kernel
theorem dX0_leastFreeBeside_9 : decode cX0_leastFreeBeside 9 = .ok (.iload_n 2, 1) := by decide +kernel
theorem dX0_leastFreeBeside_10 : decode cX0_leastFreeBeside 10 = .ok (.invokevirtual 124, 3) := by decide +kernel
theorem dX0_leastFreeBeside_13 : decode cX0_leastFreeBeside 13 = .ok (.iload_n 1, 1) := by decide +kernel
theorem dX0_leastFreeBeside_14 : decode cX0_leastFreeBeside 14 = .ok (.iand, 1) := by decide +kernel
theorem dX0_leastFreeBeside_15 : decode cX0_leastFreeBeside 15 = .ok (.ifCond .ne 5, 3) := by decide +kernel
theorem dX0_leastFreeBeside_18 : decode cX0_leastFreeBeside 18 = .ok (.iload_n 2, 1) := by decide +kernel
theorem dX0_leastFreeBeside_19 : decode cX0_leastFreeBeside 19 = .ok (.ireturn, 1) := by decide +kernel
theorem dX0_leastFreeBeside_20 : decode cX0_leastFreeBeside 20 = .ok (.iinc 2 1, 3) := by decide +kernel
theorem dX0_leastFreeBeside_23 : decode cX0_leastFreeBeside 23 = .ok (.goto (-21), 3) := by decide +kernel
theorem dX0_leastFreeBeside_26 : decode cX0_leastFreeBeside 26 = .ok (.bipush 10, 2) := by decide +kernel
theorem dX0_leastFreeBeside_28 : decode cX0_leastFreeBeside 28 = .ok (.ireturn, 1) := by decide +kernel
set_option maxRecDepth 20000 in
theorem ggX0_giveLeastFree_X0_has : GoodIn wsX0_giveLeastFree wsX0_has := goodIn_r _ [10] (by decide +kernel) (by decide +kernel)
set_option maxRecDepth 20000 in
theorem gX0_giveLeastFree_X0_has : GoodIn wsX0_giveLeastFree (va_wsS RX0 140 yX0_has wsX0_has) := goodIn_app (goodIn_of _ (by decide +kernel)) ggX0_giveLeastFree_X0_has
set_option maxRecDepth 20000 in
theorem ggX0_giveLeastFree_X0_leastFreeBeside : GoodIn wsX0_giveLeastFree wsX0_leastFreeBeside := goodIn_r _ [14, 15, 16, 17, 9, 18, 1, 19, 20, 21, 22, 23, 24, 25, 26] (by decide +kernel) (by decide +kernel)
set_option maxRecDepth 20000 in
theorem gX0_giveLeastFree_X0_leastFreeBeside : GoodIn wsX0_giveLeastFree (wsV RX0 131 RX0 yX0_leastFreeBeside wsX0_leastFreeBeside) := goodIn_app (goodIn_of _ (by decide +kernel)) ggX0_giveLeastFree_X0_leastFreeBeside
theorem dX0_giveLeastFree_0 : decode cX0_giveLeastFree 0 = .ok (.iconst 0, 1) := by decide +kernel
theorem dX0_giveLeastFree_1 : decode cX0_giveLeastFree 1 = .ok (.istore_n 2, 1) := by decide +kernel
theorem dX0_giveLeastFree_2 : decode cX0_giveLeastFree 2 = .ok (.iconst 0, 1) := by decide +kernel
theorem dX0_giveLeastFree_3 : decode cX0_giveLeastFree 3 = .ok (.istore_n 3, 1) := by decide +kernel
theorem dX0_giveLeastFree_4 : decode cX0_giveLeastFree 4 = .ok (.iload_n 3, 1) := by decide +kernel
theorem dX0_giveLeastFree_5 : decode cX0_giveLeastFree 5 = .ok (.bipush 10, 2) := by decide +kernel
theorem dX0_giveLeastFree_7 : decode cX0_giveLeastFree 7 = .ok (.if_icmp .ge 44, 3) := by decide +kernel
theorem dX0_giveLeastFree_10 : decode cX0_giveLeastFree 10 = .ok (.iload_n 1, 1) := by decide +kernel
theorem dX0_giveLeastFree_11 : decode cX0_giveLeastFree 11 = .ok (.iload_n 3, 1) := by decide +kernel
theorem dX0_giveLeastFree_12 : decode cX0_giveLeastFree 12 = .ok (.invokestatic 140, 3) := by decide +kernel
theorem dX0_giveLeastFree_15 : decode cX0_giveLeastFree 15 = .ok (.ifCond .eq 30, 3) := by decide +kernel
theorem dX0_giveLeastFree_18 : decode cX0_giveLeastFree 18 = .ok (.aload_n 0, 1) := by decide +kernel
theorem dX0_giveLeastFree_19 : decode cX0_giveLeastFree 19 = .ok (.getfield 21, 3) := by decide +kernel
theorem dX0_giveLeastFree_22 : decode cX0_giveLeastFree 22 = .ok (.iload_n 3, 1) := by decide +kernel
theorem dX0_giveLeastFree_23 : decode cX0_giveLeastFree 23 = .ok (.aload_n 0, 1) := by decide +kernel
theorem dX0_giveLeastFree_24 : decode cX0_giveLeastFree 24 = .ok (.aload_n 0, 1) := by decide +kernel
theorem dX0_giveLeastFree_25 : decode cX0_giveLeastFree 25 = .ok (.getfield 17, 3) := by decide +kernel
theorem dX0_giveLeastFree_28 : decode cX0_giveLeastFree 28 = .ok (.iload_n 3, 1) := by decide +kernel
theorem dX0_giveLeastFree_29 : decode cX0_giveLeastFree 29 = .ok (.iaload, 1) := by decide +kernel
theorem dX0_giveLeastFree_30 : decode cX0_giveLeastFree 30 = .ok (.invokevirtual 131, 3) := by decide +kernel
theorem dX0_giveLeastFree_33 : decode cX0_giveLeastFree 33 = .ok (.iastore, 1) := by decide +kernel
theorem dX0_giveLeastFree_34 : decode cX0_giveLeastFree 34 = .ok (.iload_n 2, 1) := by decide +kernel
theorem dX0_giveLeastFree_35 : decode cX0_giveLeastFree 35 = .ok (.aload_n 0, 1) := by decide +kernel
theorem dX0_giveLeastFree_36 : decode cX0_giveLeastFree 36 = .ok (.getfield 21, 3) := by decide +kernel
theorem dX0_giveLeastFree_39 : decode cX0_giveLeastFree 39 = .ok (.iload_n 3, 1) := by decide +kernel
theorem dX0_giveLeastFree_40 : decode cX0_giveLeastFree 40 = .ok (.iaload, 1) := by decide +kernel
theorem dX0_giveLeastFree_41 : decode cX0_giveLeastFree 41 = .ok (.invokestatic 92, 3) := by decide +kernel
theorem dX0_giveLeastFree_44 : decode cX0_giveLeastFree 44 = .ok (.istore_n 2, 1) := by decide +kernel
theorem dX0_giveLeastFree_45 : decode cX0_giveLeastFree 45 = .ok (.iinc 3 1, 3) := by decide +kernel
theorem dX0_giveLeastFree_48 : decode cX0_giveLeastFree 48 = .ok (.goto (-44), 3) := by decide +kernel
theorem dX0_giveLeastFree_51 : decode cX0_giveLeastFree 51 = .ok (.iload_n 2, 1) := by decide +kernel
theorem dX0_giveLeastFree_52 : decode cX0_giveLeastFree 52 = .ok (.ireturn, 1) := by decide +kernel
set_option maxRecDepth 20000 in
theorem ggX0_chainOf_X0_wearing : GoodIn wsX0_chainOf wsX0_wearing := goodIn_r _ [8, 2, 12, 13, 14, 15, 16, 17, 18, 19] (by decide +kernel) (by decide +kernel)
set_option maxRecDepth 20000 in
theorem gX0_chainOf_X0_wearing : GoodIn wsX0_chainOf (wsV RX0 124 RX0 yX0_wearing wsX0_wearing) := goodIn_app (goodIn_of _ (by decide +kernel)) ggX0_chainOf_X0_wearing
set_option maxRecDepth 20000 in
theorem ggX0_chainOf_X0_has : GoodIn wsX0_chainOf wsX0_has := goodIn_r _ [11] (by decide +kernel) (by decide +kernel)
set_option maxRecDepth 20000 in
theorem gX0_chainOf_X0_has : GoodIn wsX0_chainOf (va_wsS RX0 140 yX0_has wsX0_has) := goodIn_app (goodIn_of _ (by decide +kernel)) ggX0_chainOf_X0_has
theorem dX0_chainOf_0 : decode cX0_chainOf 0 = .ok (.aload_n 0, 1) := by decide +kernel
theorem dX0_chainOf_1 : decode cX0_chainOf 1 = .ok (.getfield 13, 3) := by decide +kernel
theorem dX0_chainOf_4 : decode cX0_chainOf 4 = .ok (.aload_n 0, 1) := by decide +kernel
theorem dX0_chainOf_5 : decode cX0_chainOf 5 = .ok (.aload_n 0, 1) := by decide +kernel
theorem dX0_chainOf_6 : decode cX0_chainOf 6 = .ok (.getfield 21, 3) := by decide +kernel
theorem dX0_chainOf_9 : decode cX0_chainOf 9 = .ok (.iload_n 1, 1) := by decide +kernel
theorem dX0_chainOf_10 : decode cX0_chainOf 10 = .ok (.iaload, 1) := by decide +kernel
theorem dX0_chainOf_11 : decode cX0_chainOf 11 = .ok (.invokevirtual 124, 3) := by decide +kernel
theorem dX0_chainOf_14 : decode cX0_chainOf 14 = .ok (.aload_n 0, 1) := by decide +kernel
theorem dX0_chainOf_15 : decode cX0_chainOf 15 = .ok (.iload_n 2, 1) := by decide +kernel
theorem dX0_chainOf_16 : decode cX0_chainOf 16 = .ok (.invokevirtual 124, 3) := by decide +kernel
theorem dX0_chainOf_19 : decode cX0_chainOf 19 = .ok (.ior, 1) := by decide +kernel
theorem dX0_chainOf_20 : decode cX0_chainOf 20 = .ok (.iand, 1) := by decide +kernel
theorem dX0_chainOf_21 : decode cX0_chainOf 21 = .ok (.istore_n 3, 1) := by decide +kernel
theorem dX0_chainOf_22 : decode cX0_chainOf 22 = .ok (.iconst 1, 1) := by decide +kernel
theorem dX0_chainOf_23 : decode cX0_chainOf 23 = .ok (.iload_n 1, 1) := by decide +kernel
theorem dX0_chainOf_24 : decode cX0_chainOf 24 = .ok (.ishl, 1) := by decide +kernel
theorem dX0_chainOf_25 : decode cX0_chainOf 25 = .ok (.istore 4, 2) := by decide +kernel
theorem dX0_chainOf_27 : decode cX0_chainOf 27 = .ok (.iconst 0, 1) := by decide +kernel
theorem dX0_chainOf_28 : decode cX0_chainOf 28 = .ok (.istore 5, 2) := by decide +kernel
theorem dX0_chainOf_30 : decode cX0_chainOf 30 = .ok (.iload 5, 2) := by decide +kernel
theorem dX0_chainOf_32 : decode cX0_chainOf 32 = .ok (.bipush 10, 2) := by decide +kernel
theorem dX0_chainOf_34 : decode cX0_chainOf 34 = .ok (.if_icmp .ge 57, 3) := by decide +kernel
theorem dX0_chainOf_37 : decode cX0_chainOf 37 = .ok (.iload 4, 2) := by decide +kernel
theorem dX0_chainOf_39 : decode cX0_chainOf 39 = .ok (.istore 6, 2) := by decide +kernel
theorem dX0_chainOf_41 : decode cX0_chainOf 41 = .ok (.iconst 0, 1) := by decide +kernel
theorem dX0_chainOf_42 : decode cX0_chainOf 42 = .ok (.istore 7, 2) := by decide +kernel
theorem dX0_chainOf_44 : decode cX0_chainOf 44 = .ok (.iload 7, 2) := by decide +kernel
theorem dX0_chainOf_46 : decode cX0_chainOf 46 = .ok (.bipush 10, 2) := by decide +kernel
theorem dX0_chainOf_48 : decode cX0_chainOf 48 = .ok (.if_icmp .ge 33, 3) := by decide +kernel
theorem dX0_chainOf_51 : decode cX0_chainOf 51 = .ok (.iload 4, 2) := by decide +kernel
theorem dX0_chainOf_53 : decode cX0_chainOf 53 = .ok (.iload 7, 2) := by decide +kernel
theorem dX0_chainOf_55 : decode cX0_chainOf 55 = .ok (.invokestatic 140, 3) := by decide +kernel
theorem dX0_chainOf_58 : decode cX0_chainOf 58 = .ok (.ifCond .eq 17, 3) := by decide +kernel
theorem dX0_chainOf_61 : decode cX0_chainOf 61 = .ok (.iload 6, 2) := by decide +kernel
theorem dX0_chainOf_63 : decode cX0_chainOf 63 = .ok (.aload_n 0, 1) := by decide +kernel
theorem dX0_chainOf_64 : decode cX0_chainOf 64 = .ok (.getfield 17, 3) := by decide +kernel
theorem dX0_chainOf_67 : decode cX0_chainOf 67 = .ok (.iload 7, 2) := by decide +kernel
theorem dX0_chainOf_69 : decode cX0_chainOf 69 = .ok (.iaload, 1) := by decide +kernel
theorem dX0_chainOf_70 : decode cX0_chainOf 70 = .ok (.iload_n 3, 1) := by decide +kernel
theorem dX0_chainOf_71 : decode cX0_chainOf 71 = .ok (.iand, 1) := by decide +kernel
theorem dX0_chainOf_72 : decode cX0_chainOf 72 = .ok (.ior, 1) := by decide +kernel
theorem dX0_chainOf_73 : decode cX0_chainOf 73 = .ok (.istore 6, 2) := by decide +kernel
theorem dX0_chainOf_75 : decode cX0_chainOf 75 = .ok (.iinc 7 1, 3) := by decide +kernel
theorem dX0_chainOf_78 : decode cX0_chainOf 78 = .ok (.goto (-34), 3) := by decide +kernel
theorem dX0_chainOf_81 : decode cX0_chainOf 81 = .ok (.iload 6, 2) := by decide +kernel
theorem dX0_chainOf_83 : decode cX0_chainOf 83 = .ok (.istore 4, 2) := by decide +kernel
theorem dX0_chainOf_85 : decode cX0_chainOf 85 = .ok (.iinc 5 1, 3) := by decide +kernel
theorem dX0_chainOf_88 : decode cX0_chainOf 88 = .ok (.goto (-58), 3) := by decide +kernel
theorem dX0_chainOf_91 : decode cX0_chainOf 91 = .ok (.iload 4, 2) := by decide +kernel
theorem dX0_chainOf_93 : decode cX0_chainOf 93 = .ok (.ireturn, 1) := by decide +kernel
set_option maxRecDepth 20000 in
theorem ggX0_tryFewest_X0_tryFrom : GoodIn wsX0_tryFewest wsX0_tryFrom := goodIn_r _ [7, 8, 9, 10, 11, 12, 13, 6, 14, 4, 5, 15, 16, 17] (by decide +kernel) (by decide +kernel)
set_option maxRecDepth 20000 in
theorem gX0_tryFewest_X0_tryFrom : GoodIn wsX0_tryFewest (va_wsS RX0 209 yX0_tryFrom wsX0_tryFrom) := goodIn_app (goodIn_of _ (by decide +kernel)) ggX0_tryFewest_X0_tryFrom
theorem dX0_tryFewest_0 : decode cX0_tryFewest 0 = .ok (.iconst 0, 1) := by decide +kernel
theorem dX0_tryFewest_1 : decode cX0_tryFewest 1 = .ok (.istore_n 1, 1) := by decide +kernel
theorem dX0_tryFewest_2 : decode cX0_tryFewest 2 = .ok (.iload_n 1, 1) := by decide +kernel
theorem dX0_tryFewest_3 : decode cX0_tryFewest 3 = .ok (.bipush 10, 2) := by decide +kernel
theorem dX0_tryFewest_5 : decode cX0_tryFewest 5 = .ok (.if_icmp .gt 32, 3) := by decide +kernel
theorem dX0_tryFewest_8 : decode cX0_tryFewest 8 = .ok (.iconst 0, 1) := by decide +kernel
theorem dX0_tryFewest_9 : decode cX0_tryFewest 9 = .ok (.aload_n 0, 1) := by decide +kernel
theorem dX0_tryFewest_10 : decode cX0_tryFewest 10 = .ok (.getfield 17, 3) := by decide +kernel
theorem dX0_tryFewest_13 : decode cX0_tryFewest 13 = .ok (.aload_n 0, 1) := by decide +kernel
theorem dX0_tryFewest_14 : decode cX0_tryFewest 14 = .ok (.getfield 13, 3) := by decide +kernel
theorem dX0_tryFewest_17 : decode cX0_tryFewest 17 = .ok (.aload_n 0, 1) := by decide +kernel
theorem dX0_tryFewest_18 : decode cX0_tryFewest 18 = .ok (.getfield 24, 3) := by decide +kernel
theorem dX0_tryFewest_21 : decode cX0_tryFewest 21 = .ok (.iconst 0, 1) := by decide +kernel
theorem dX0_tryFewest_22 : decode cX0_tryFewest 22 = .ok (.iload_n 1, 1) := by decide +kernel
theorem dX0_tryFewest_23 : decode cX0_tryFewest 23 = .ok (.invokestatic 209, 3) := by decide +kernel
theorem dX0_tryFewest_26 : decode cX0_tryFewest 26 = .ok (.ifCond .eq 5, 3) := by decide +kernel
theorem dX0_tryFewest_29 : decode cX0_tryFewest 29 = .ok (.iload_n 1, 1) := by decide +kernel
theorem dX0_tryFewest_30 : decode cX0_tryFewest 30 = .ok (.ireturn, 1) := by decide +kernel
theorem dX0_tryFewest_31 : decode cX0_tryFewest 31 = .ok (.iinc 1 1, 3) := by decide +kernel
theorem dX0_tryFewest_34 : decode cX0_tryFewest 34 = .ok (.goto (-32), 3) := by decide +kernel
theorem dX0_tryFewest_37 : decode cX0_tryFewest 37 = .ok (.bipush 10, 2) := by decide +kernel
theorem dX0_tryFewest_39 : decode cX0_tryFewest 39 = .ok (.ireturn, 1) := by decide +kernel
set_option maxRecDepth 20000 in
theorem ggX0_tryFrom_X0_has : GoodIn wsX0_tryFrom wsX0_has := goodIn_r _ [8] (by decide +kernel) (by decide +kernel)
set_option maxRecDepth 20000 in
theorem gX0_tryFrom_X0_has : GoodIn wsX0_tryFrom (va_wsS RX0 140 yX0_has wsX0_has) := goodIn_app (goodIn_of _ (by decide +kernel)) ggX0_tryFrom_X0_has
set_option maxRecDepth 20000 in
theorem ggX0_tryFrom_X0_tryFrom : GoodIn wsX0_tryFrom wsX0_tryFrom := goodIn_r _ [0, 1, 2, 3, 4, 5, 6, 7, 8, 9, 10, 11, 12, 13] (by decide +kernel) (by decide +kernel)
set_option maxRecDepth 20000 in
theorem gX0_tryFrom_X0_tryFrom : GoodIn wsX0_tryFrom (va_wsS RX0 209 yX0_tryFrom wsX0_tryFrom) := goodIn_app (goodIn_of _ (by decide +kernel)) ggX0_tryFrom_X0_tryFrom
set_option maxRecDepth 20000 in
theorem ggX0_tryFrom_X0_isFreeIn : GoodIn wsX0_tryFrom wsX0_isFreeIn := goodIn_r _ [13, 5, 6, 7, 8] (by decide +kernel) (by decide +kernel)
set_option maxRecDepth 20000 in
theorem gX0_tryFrom_X0_isFreeIn : GoodIn wsX0_tryFrom (va_wsS RX0 213 yX0_isFreeIn wsX0_isFreeIn) := goodIn_app (goodIn_of _ (by decide +kernel)) ggX0_tryFrom_X0_isFreeIn
theorem dX0_tryFrom_0 : decode cX0_tryFrom 0 = .ok (.iload_n 0, 1) := by decide +kernel
theorem dX0_tryFrom_1 : decode cX0_tryFrom 1 = .ok (.bipush 10, 2) := by decide +kernel
theorem dX0_tryFrom_3 : decode cX0_tryFrom 3 = .ok (.if_icmp .lt 5, 3) := by decide +kernel
theorem dX0_tryFrom_6 : decode cX0_tryFrom 6 = .ok (.iconst 1, 1) := by decide +kernel
theorem dX0_tryFrom_7 : decode cX0_tryFrom 7 = .ok (.ireturn, 1) := by decide +kernel
theorem dX0_tryFrom_8 : decode cX0_tryFrom 8 = .ok (.iload_n 2, 1) := by decide +kernel
theorem dX0_tryFrom_9 : decode cX0_tryFrom 9 = .ok (.iload_n 0, 1) := by decide +kernel
theorem dX0_tryFrom_10 : decode cX0_tryFrom 10 = .ok (.invokestatic 140, 3) := by decide +kernel
theorem dX0_tryFrom_13 : decode cX0_tryFrom 13 = .ok (.ifCond .ne 17, 3) := by decide +kernel
theorem dX0_tryFrom_16 : decode cX0_tryFrom 16 = .ok (.iload_n 0, 1) := by decide +kernel
theorem dX0_tryFrom_17 : decode cX0_tryFrom 17 = .ok (.iconst 1, 1) := by decide +kernel
theorem dX0_tryFrom_18 : decode cX0_tryFrom 18 = .ok (.iadd, 1) := by decide +kernel
theorem dX0_tryFrom_19 : decode cX0_tryFrom 19 = .ok (.aload_n 1, 1) := by decide +kernel
theorem dX0_tryFrom_20 : decode cX0_tryFrom 20 = .ok (.iload_n 2, 1) := by decide +kernel
theorem dX0_tryFrom_21 : decode cX0_tryFrom 21 = .ok (.aload_n 3, 1) := by decide +kernel
theorem dX0_tryFrom_22 : decode cX0_tryFrom 22 = .ok (.iload 4, 2) := by decide +kernel
theorem dX0_tryFrom_24 : decode cX0_tryFrom 24 = .ok (.iload 5, 2) := by decide +kernel
theorem dX0_tryFrom_26 : decode cX0_tryFrom 26 = .ok (.invokestatic 209, 3) := by decide +kernel
theorem dX0_tryFrom_29 : decode cX0_tryFrom 29 = .ok (.ireturn, 1) := by decide +kernel
theorem dX0_tryFrom_30 : decode cX0_tryFrom 30 = .ok (.iconst 1, 1) := by decide +kernel
theorem dX0_tryFrom_31 : decode cX0_tryFrom 31 = .ok (.istore 6, 2) := by decide +kernel
theorem dX0_tryFrom_33 : decode cX0_tryFrom 33 = .ok (.iload 6, 2) := by decide +kernel
theorem dX0_tryFrom_35 : decode cX0_tryFrom 35 = .ok (.iload 5, 2) := by decide +kernel
theorem dX0_tryFrom_37 : decode cX0_tryFrom 37 = .ok (.if_icmp .gt 59, 3) := by decide +kernel
theorem dX0_tryFrom_40 : decode cX0_tryFrom 40 = .ok (.iload 6, 2) := by decide +kernel
theorem dX0_tryFrom_42 : decode cX0_tryFrom 42 = .ok (.iload 4, 2) := by decide +kernel
theorem dX0_tryFrom_44 : decode cX0_tryFrom 44 = .ok (.iconst 1, 1) := by decide +kernel
theorem dX0_tryFrom_45 : decode cX0_tryFrom 45 = .ok (.iadd, 1) := by decide +kernel
theorem dX0_tryFrom_46 : decode cX0_tryFrom 46 = .ok (.if_icmp .gt 50, 3) := by decide +kernel
theorem dX0_tryFrom_49 : decode cX0_tryFrom 49 = .ok (.aload_n 3, 1) := by decide +kernel
theorem dX0_tryFrom_50 : decode cX0_tryFrom 50 = .ok (.iload_n 0, 1) := by decide +kernel
theorem dX0_tryFrom_51 : decode cX0_tryFrom 51 = .ok (.aload_n 1, 1) := by decide +kernel
theorem dX0_tryFrom_52 : decode cX0_tryFrom 52 = .ok (.iload_n 0, 1) := by decide +kernel
theorem dX0_tryFrom_53 : decode cX0_tryFrom 53 = .ok (.iaload, 1) := by decide +kernel
theorem dX0_tryFrom_54 : decode cX0_tryFrom 54 = .ok (.iload 6, 2) := by decide +kernel
theorem dX0_tryFrom_56 : decode cX0_tryFrom 56 = .ok (.invokestatic 213, 3) := by decide +kernel
theorem dX0_tryFrom_59 : decode cX0_tryFrom 59 = .ok (.ifCond .eq 31, 3) := by decide +kernel
theorem dX0_tryFrom_62 : decode cX0_tryFrom 62 = .ok (.aload_n 3, 1) := by decide +kernel
theorem dX0_tryFrom_63 : decode cX0_tryFrom 63 = .ok (.iload_n 0, 1) := by decide +kernel
theorem dX0_tryFrom_64 : decode cX0_tryFrom 64 = .ok (.iload 6, 2) := by decide +kernel
theorem dX0_tryFrom_66 : decode cX0_tryFrom 66 = .ok (.iastore, 1) := by decide +kernel
theorem dX0_tryFrom_67 : decode cX0_tryFrom 67 = .ok (.iload_n 0, 1) := by decide +kernel
theorem dX0_tryFrom_68 : decode cX0_tryFrom 68 = .ok (.iconst 1, 1) := by decide +kernel
theorem dX0_tryFrom_69 : decode cX0_tryFrom 69 = .ok (.iadd, 1) := by decide +kernel
theorem dX0_tryFrom_70 : decode cX0_tryFrom 70 = .ok (.aload_n 1, 1) := by decide +kernel
theorem dX0_tryFrom_71 : decode cX0_tryFrom 71 = .ok (.iload_n 2, 1) := by decide +kernel
theorem dX0_tryFrom_72 : decode cX0_tryFrom 72 = .ok (.aload_n 3, 1) := by decide +kernel
theorem dX0_tryFrom_73 : decode cX0_tryFrom 73 = .ok (.iload 4, 2) := by decide +kernel
theorem dX0_tryFrom_75 : decode cX0_tryFrom 75 = .ok (.iload 6, 2) := by decide +kernel
theorem dX0_tryFrom_77 : decode cX0_tryFrom 77 = .ok (.invokestatic 92, 3) := by decide +kernel
theorem dX0_tryFrom_80 : decode cX0_tryFrom 80 = .ok (.iload 5, 2) := by decide +kernel
theorem dX0_tryFrom_82 : decode cX0_tryFrom 82 = .ok (.invokestatic 209, 3) := by decide +kernel
theorem dX0_tryFrom_85 : decode cX0_tryFrom 85 = .ok (.ifCond .eq 5, 3) := by decide +kernel
theorem dX0_tryFrom_88 : decode cX0_tryFrom 88 = .ok (.iconst 1, 1) := by decide +kernel
theorem dX0_tryFrom_89 : decode cX0_tryFrom 89 = .ok (.ireturn, 1) := by decide +kernel
theorem dX0_tryFrom_90 : decode cX0_tryFrom 90 = .ok (.iinc 6 1, 3) := by decide +kernel
theorem dX0_tryFrom_93 : decode cX0_tryFrom 93 = .ok (.goto (-60), 3) := by decide +kernel
theorem dX0_tryFrom_96 : decode cX0_tryFrom 96 = .ok (.iconst 0, 1) := by decide +kernel
theorem dX0_tryFrom_97 : decode cX0_tryFrom 97 = .ok (.ireturn, 1) := by decide +kernel
set_option maxRecDepth 20000 in
theorem ggX0_isFreeIn_X0_has : GoodIn wsX0_isFreeIn wsX0_has := goodIn_r _ [4] (by decide +kernel) (by decide +kernel)
set_option maxRecDepth 20000 in
theorem gX0_isFreeIn_X0_has : GoodIn wsX0_isFreeIn (va_wsS RX0 140 yX0_has wsX0_has) := goodIn_app (goodIn_of _ (by decide +kernel)) ggX0_isFreeIn_X0_has
theorem dX0_isFreeIn_0 : decode cX0_isFreeIn 0 = .ok (.iconst 0, 1) := by decide +kernel
theorem dX0_isFreeIn_1 : decode cX0_isFreeIn 1 = .ok (.istore 4, 2) := by decide +kernel
theorem dX0_isFreeIn_3 : decode cX0_isFreeIn 3 = .ok (.iload 4, 2) := by decide +kernel
theorem dX0_isFreeIn_5 : decode cX0_isFreeIn 5 = .ok (.iload_n 1, 1) := by decide +kernel
theorem dX0_isFreeIn_6 : decode cX0_isFreeIn 6 = .ok (.if_icmp .ge 28, 3) := by decide +kernel
theorem dX0_isFreeIn_9 : decode cX0_isFreeIn 9 = .ok (.iload_n 2, 1) := by decide +kernel
theorem dX0_isFreeIn_10 : decode cX0_isFreeIn 10 = .ok (.iload 4, 2) := by decide +kernel
theorem dX0_isFreeIn_12 : decode cX0_isFreeIn 12 = .ok (.invokestatic 140, 3) := by decide +kernel
theorem dX0_isFreeIn_15 : decode cX0_isFreeIn 15 = .ok (.ifCond .eq 13, 3) := by decide +kernel
theorem dX0_isFreeIn_18 : decode cX0_isFreeIn 18 = .ok (.aload_n 0, 1) := by decide +kernel
theorem dX0_isFreeIn_19 : decode cX0_isFreeIn 19 = .ok (.iload 4, 2) := by decide +kernel
theorem dX0_isFreeIn_21 : decode cX0_isFreeIn 21 = .ok (.iaload, 1) := by decide +kernel
theorem dX0_isFreeIn_22 : decode cX0_isFreeIn 22 = .ok (.iload_n 3, 1) := by decide +kernel
theorem dX0_isFreeIn_23 : decode cX0_isFreeIn 23 = .ok (.if_icmp .ne 5, 3) := by decide +kernel
theorem dX0_isFreeIn_26 : decode cX0_isFreeIn 26 = .ok (.iconst 0, 1) := by decide +kernel
theorem dX0_isFreeIn_27 : decode cX0_isFreeIn 27 = .ok (.ireturn, 1) := by decide +kernel
theorem dX0_isFreeIn_28 : decode cX0_isFreeIn 28 = .ok (.iinc 4 1, 3) := by decide +kernel
theorem dX0_isFreeIn_31 : decode cX0_isFreeIn 31 = .ok (.goto (-28), 3) := by decide +kernel
theorem dX0_isFreeIn_34 : decode cX0_isFreeIn 34 = .ok (.iconst 1, 1) := by decide +kernel
theorem dX0_isFreeIn_35 : decode cX0_isFreeIn 35 = .ok (.ireturn, 1) := by decide +kernel
set_option maxRecDepth 20000 in
theorem ggX0_shareOutOneSet_X0_shareOutFrom : GoodIn wsX0_shareOutOneSet wsX0_shareOutFrom := goodIn_r _ [6, 7, 1, 8, 9, 10, 11, 12, 13, 14, 15] (by decide +kernel) (by decide +kernel)
set_option maxRecDepth 20000 in
theorem gX0_shareOutOneSet_X0_shareOutFrom : GoodIn wsX0_shareOutOneSet (wsV RX0 217 RX0 yX0_shareOutFrom wsX0_shareOutFrom) := goodIn_app (goodIn_of _ (by decide +kernel)) ggX0_shareOutOneSet_X0_shareOutFrom
theorem dX0_shareOutOneSet_0 : decode cX0_shareOutOneSet 0 = .ok (.aload_n 0, 1) := by decide +kernel
theorem dX0_shareOutOneSet_1 : decode cX0_shareOutOneSet 1 = .ok (.getfield 31, 3) := by decide +kernel
theorem dX0_shareOutOneSet_4 : decode cX0_shareOutOneSet 4 = .ok (.iconst 0, 1) := by decide +kernel
theorem dX0_shareOutOneSet_5 : decode cX0_shareOutOneSet 5 = .ok (.lconst 0, 1) := by decide +kernel
theorem dX0_shareOutOneSet_6 : decode cX0_shareOutOneSet 6 = .ok (.lastore, 1) := by decide +kernel
theorem dX0_shareOutOneSet_7 : decode cX0_shareOutOneSet 7 = .ok (.iconst 1, 1) := by decide +kernel
theorem dX0_shareOutOneSet_8 : decode cX0_shareOutOneSet 8 = .ok (.istore_n 1, 1) := by decide +kernel
theorem dX0_shareOutOneSet_9 : decode cX0_shareOutOneSet 9 = .ok (.iload_n 1, 1) := by decide +kernel
theorem dX0_shareOutOneSet_10 : decode cX0_shareOutOneSet 10 = .ok (.sipush 1024, 3) := by decide +kernel
theorem dX0_shareOutOneSet_13 : decode cX0_shareOutOneSet 13 = .ok (.if_icmp .ge 35, 3) := by decide +kernel
theorem dX0_shareOutOneSet_16 : decode cX0_shareOutOneSet 16 = .ok (.aload_n 0, 1) := by decide +kernel
theorem dX0_shareOutOneSet_17 : decode cX0_shareOutOneSet 17 = .ok (.getfield 31, 3) := by decide +kernel
theorem dX0_shareOutOneSet_20 : decode cX0_shareOutOneSet 20 = .ok (.iload_n 1, 1) := by decide +kernel
theorem dX0_shareOutOneSet_21 : decode cX0_shareOutOneSet 21 = .ok (.laload, 1) := by decide +kernel
theorem dX0_shareOutOneSet_22 : decode cX0_shareOutOneSet 22 = .ok (.lstore_n 2, 1) := by decide +kernel
theorem dX0_shareOutOneSet_23 : decode cX0_shareOutOneSet 23 = .ok (.lload_n 2, 1) := by decide +kernel
theorem dX0_shareOutOneSet_24 : decode cX0_shareOutOneSet 24 = .ok (.lconst 0, 1) := by decide +kernel
theorem dX0_shareOutOneSet_25 : decode cX0_shareOutOneSet 25 = .ok (.lcmp, 1) := by decide +kernel
theorem dX0_shareOutOneSet_26 : decode cX0_shareOutOneSet 26 = .ok (.ifCond .eq 16, 3) := by decide +kernel
theorem dX0_shareOutOneSet_29 : decode cX0_shareOutOneSet 29 = .ok (.aload_n 0, 1) := by decide +kernel
theorem dX0_shareOutOneSet_30 : decode cX0_shareOutOneSet 30 = .ok (.getfield 31, 3) := by decide +kernel
theorem dX0_shareOutOneSet_33 : decode cX0_shareOutOneSet 33 = .ok (.iload_n 1, 1) := by decide +kernel
theorem dX0_shareOutOneSet_34 : decode cX0_shareOutOneSet 34 = .ok (.lconst 0, 1) := by decide +kernel
theorem dX0_shareOutOneSet_35 : decode cX0_shareOutOneSet 35 = .ok (.lastore, 1) := by decide +kernel
theorem dX0_shareOutOneSet_36 : decode cX0_shareOutOneSet 36 = .ok (.aload_n 0, 1) := by decide +kernel
theorem dX0_shareOutOneSet_37 : decode cX0_shareOutOneSet 37 = .ok (.iload_n 1, 1) := by decide +kernel
theorem dX0_shareOutOneSet_38 : decode cX0_shareOutOneSet 38 = .ok (.lload_n 2, 1) := by decide +kernel
theorem dX0_shareOutOneSet_39 : decode cX0_shareOutOneSet 39 = .ok (.invokevirtual 217, 3) := by decide +kernel
theorem dX0_shareOutOneSet_42 : decode cX0_shareOutOneSet 42 = .ok (.iinc 1 1, 3) := by decide +kernel
theorem dX0_shareOutOneSet_45 : decode cX0_shareOutOneSet 45 = .ok (.goto (-36), 3) := by decide +kernel
theorem dX0_shareOutOneSet_48 : decode cX0_shareOutOneSet 48 = .ok (.return_, 1) := by decide +kernel
theorem dX0_shareOutFrom_0 : decode cX0_shareOutFrom 0 = .ok (.iload_n 1, 1) := by decide +kernel
theorem dX0_shareOutFrom_1 : decode cX0_shareOutFrom 1 = .ok (.iload_n 1, 1) := by decide +kernel
theorem dX0_shareOutFrom_2 : decode cX0_shareOutFrom 2 = .ok (.ineg, 1) := by decide +kernel
theorem dX0_shareOutFrom_3 : decode cX0_shareOutFrom 3 = .ok (.iand, 1) := by decide +kernel
theorem dX0_shareOutFrom_4 : decode cX0_shareOutFrom 4 = .ok (.istore 4, 2) := by decide +kernel
theorem dX0_shareOutFrom_6 : decode cX0_shareOutFrom 6 = .ok (.iload_n 1, 1) := by decide +kernel
theorem dX0_shareOutFrom_7 : decode cX0_shareOutFrom 7 = .ok (.iload 4, 2) := by decide +kernel
theorem dX0_shareOutFrom_9 : decode cX0_shareOutFrom 9 = .ok (.iconst (-1), 1) := by decide +kernel
theorem dX0_shareOutFrom_10 : decode cX0_shareOutFrom 10 = .ok (.ixor, 1) := by decide +kernel
theorem dX0_shareOutFrom_11 : decode cX0_shareOutFrom 11 = .ok (.iand, 1) := by decide +kernel
theorem dX0_shareOutFrom_12 : decode cX0_shareOutFrom 12 = .ok (.istore 5, 2) := by decide +kernel
theorem dX0_shareOutFrom_14 : decode cX0_shareOutFrom 14 = .ok (.iload 5, 2) := by decide +kernel
theorem dX0_shareOutFrom_16 : decode cX0_shareOutFrom 16 = .ok (.istore 6, 2) := by decide +kernel
theorem dX0_shareOutFrom_18 : decode cX0_shareOutFrom 18 = .ok (.iconst 0, 1) := by decide +kernel
theorem dX0_shareOutFrom_19 : decode cX0_shareOutFrom 19 = .ok (.istore 7, 2) := by decide +kernel
theorem dX0_shareOutFrom_21 : decode cX0_shareOutFrom 21 = .ok (.iload 7, 2) := by decide +kernel
theorem dX0_shareOutFrom_23 : decode cX0_shareOutFrom 23 = .ok (.sipush 1024, 3) := by decide +kernel
theorem dX0_shareOutFrom_26 : decode cX0_shareOutFrom 26 = .ok (.if_icmp .ge 53, 3) := by decide +kernel
theorem dX0_shareOutFrom_29 : decode cX0_shareOutFrom 29 = .ok (.aload_n 0, 1) := by decide +kernel
theorem dX0_shareOutFrom_30 : decode cX0_shareOutFrom 30 = .ok (.getfield 27, 3) := by decide +kernel
theorem dX0_shareOutFrom_33 : decode cX0_shareOutFrom 33 = .ok (.iload 4, 2) := by decide +kernel
theorem dX0_shareOutFrom_35 : decode cX0_shareOutFrom 35 = .ok (.iload 6, 2) := by decide +kernel
theorem dX0_shareOutFrom_37 : decode cX0_shareOutFrom 37 = .ok (.ior, 1) := by decide +kernel
theorem dX0_shareOutFrom_38 : decode cX0_shareOutFrom 38 = .ok (.baload, 1) := by decide +kernel
theorem dX0_shareOutFrom_39 : decode cX0_shareOutFrom 39 = .ok (.ifCond .eq 19, 3) := by decide +kernel
theorem dX0_shareOutFrom_42 : decode cX0_shareOutFrom 42 = .ok (.aload_n 0, 1) := by decide +kernel
theorem dX0_shareOutFrom_43 : decode cX0_shareOutFrom 43 = .ok (.getfield 31, 3) := by decide +kernel
theorem dX0_shareOutFrom_46 : decode cX0_shareOutFrom 46 = .ok (.iload 5, 2) := by decide +kernel
theorem dX0_shareOutFrom_48 : decode cX0_shareOutFrom 48 = .ok (.iload 6, 2) := by decide +kernel
theorem dX0_shareOutFrom_50 : decode cX0_shareOutFrom 50 = .ok (.iconst (-1), 1) := by decide +kernel
theorem dX0_shareOutFrom_51 : decode cX0_shareOutFrom 51 = .ok (.ixor, 1) := by decide +kernel
theorem dX0_shareOutFrom_52 : decode cX0_shareOutFrom 52 = .ok (.iand, 1) := by decide +kernel
theorem dX0_shareOutFrom_53 : decode cX0_shareOutFrom 53 = .ok (.dup2, 1) := by decide +kernel
theorem dX0_shareOutFrom_54 : decode cX0_shareOutFrom 54 = .ok (.laload, 1) := by decide +kernel
theorem dX0_shareOutFrom_55 : decode cX0_shareOutFrom 55 = .ok (.lload_n 2, 1) := by decide +kernel
theorem dX0_shareOutFrom_56 : decode cX0_shareOutFrom 56 = .ok (.ladd, 1) := by decide +kernel
theorem dX0_shareOutFrom_57 : decode cX0_shareOutFrom 57 = .ok (.lastore, 1) := by decide +kernel
theorem dX0_shareOutFrom_58 : decode cX0_shareOutFrom 58 = .ok (.iload 6, 2) := by decide +kernel
theorem dX0_shareOutFrom_60 : decode cX0_shareOutFrom 60 = .ok (.ifCond .ne 4, 3) := by decide +kernel
theorem dX0_shareOutFrom_63 : decode cX0_shareOutFrom 63 = .ok (.return_, 1) := by decide +kernel
theorem dX0_shareOutFrom_64 : decode cX0_shareOutFrom 64 = .ok (.iload 6, 2) := by decide +kernel
theorem dX0_shareOutFrom_66 : decode cX0_shareOutFrom 66 = .ok (.iconst 1, 1) := by decide +kernel
theorem dX0_shareOutFrom_67 : decode cX0_shareOutFrom 67 = .ok (.isub, 1) := by decide +kernel
theorem dX0_shareOutFrom_68 : decode cX0_shareOutFrom 68 = .ok (.iload 5, 2) := by decide +kernel
theorem dX0_shareOutFrom_70 : decode cX0_shareOutFrom 70 = .ok (.iand, 1) := by decide +kernel
theorem dX0_shareOutFrom_71 : decode cX0_shareOutFrom 71 = .ok (.istore 6, 2) := by decide +kernel
theorem dX0_shareOutFrom_73 : decode cX0_shareOutFrom 73 = .ok (.iinc 7 1, 3) := by decide +kernel
theorem dX0_shareOutFrom_76 : decode cX0_shareOutFrom 76 = .ok (.goto (-55), 3) := by decide +kernel
theorem dX0_shareOutFrom_79 : decode cX0_shareOutFrom 79 = .ok (.return_, 1) := by decide +kernel
set_option maxRecDepth 20000 in
theorem ggX0_countByPairs_X0_oneToTintLast : GoodIn wsX0_countByPairs wsX0_oneToTintLast := goodIn_r _ [4, 5, 6, 3, 7, 8, 9, 10] (by decide +kernel) (by decide +kernel)
set_option maxRecDepth 20000 in
theorem gX0_countByPairs_X0_oneToTintLast : GoodIn wsX0_countByPairs (va_wsS RX0 221 yX0_oneToTintLast wsX0_oneToTintLast) := goodIn_app (goodIn_of _ (by decide +kernel)) ggX0_countByPairs_X0_oneToTintLast
set_option maxRecDepth 20000 in
theorem ggX0_countByPairs_J6_bitCount_0f7a4 : GoodIn wsX0_countByPairs wsJ6_bitCount_0f7a4 := goodIn_r _ [14, 15, 16, 17] (by decide +kernel) (by decide +kernel)
set_option maxRecDepth 20000 in
theorem gX0_countByPairs_J6_bitCount_0f7a4 : GoodIn wsX0_countByPairs (va_wsS RX0 77 yJ6_bitCount_0f7a4 wsJ6_bitCount_0f7a4) := goodIn_app (goodIn_of _ (by decide +kernel)) ggX0_countByPairs_J6_bitCount_0f7a4
set_option maxRecDepth 20000 in
theorem ggX0_countByPairs_X0_firstWithStranger : GoodIn wsX0_countByPairs wsX0_firstWithStranger := goodIn_r _ [20, 5, 6, 3, 7] (by decide +kernel) (by decide +kernel)
set_option maxRecDepth 20000 in
theorem gX0_countByPairs_X0_firstWithStranger : GoodIn wsX0_countByPairs (va_wsS RX0 225 yX0_firstWithStranger wsX0_firstWithStranger) := goodIn_app (goodIn_of _ (by decide +kernel)) ggX0_countByPairs_X0_firstWithStranger
set_option maxRecDepth 20000 in
theorem ggX0_countByPairs_X0_firstOf : GoodIn wsX0_countByPairs wsX0_firstOf := goodIn_r _ [23, 5, 6, 3, 7] (by decide +kernel) (by decide +kernel)
set_option maxRecDepth 20000 in
theorem gX0_countByPairs_X0_firstOf : GoodIn wsX0_countByPairs (va_wsS RX0 228 yX0_firstOf wsX0_firstOf) := goodIn_app (goodIn_of _ (by decide +kernel)) ggX0_countByPairs_X0_firstOf
set_option maxRecDepth 20000 in
theorem ggX0_countByPairs_X0_makeOne : GoodIn wsX0_countByPairs wsX0_makeOne := goodIn_r _ [26, 5, 6, 3, 7] (by decide +kernel) (by decide +kernel)
set_option maxRecDepth 20000 in
theorem gX0_countByPairs_X0_makeOne : GoodIn wsX0_countByPairs (va_wsS RX0 231 yX0_makeOne wsX0_makeOne) := goodIn_app (goodIn_of _ (by decide +kernel)) ggX0_countByPairs_X0_makeOne
set_option maxRecDepth 20000 in
theorem ggX0_countByPairs_X0_countByPairs : GoodIn wsX0_countByPairs wsX0_countByPairs := goodIn_r _ [0, 1, 2, 3, 4, 5, 6, 7, 8, 9, 10, 11, 12, 13, 14, 15, 16, 17, 18, 19, 20, 21, 22, 23, 24, 25, 26, 27, 28] (by decide +kernel) (by decide +kernel)
set_option maxRecDepth 20000 in
theorem gX0_countByPairs_X0_countByPairs : GoodIn wsX0_countByPairs (va_wsS RX0 174 yX0_countByPairs wsX0_countByPairs) := goodIn_app (goodIn_of _ (by decide +kernel)) ggX0_countByPairs_X0_countByPairs
theorem dX0_countByPairs_0 : decode cX0_countByPairs 0 = .ok (.iload_n 1, 1) := by decide +kernel
theorem dX0_countByPairs_1 : decode cX0_countByPairs 1 = .ok (.bipush 10, 2) := by decide +kernel
theorem dX0_countByPairs_3 : decode cX0_countByPairs 3 = .ok (.if_icmp .lt 5, 3) := by decide +kernel
theorem dX0_countByPairs_6 : decode cX0_countByPairs 6 = .ok (.lconst 0, 1) := by decide +kernel
theorem dX0_countByPairs_7 : decode cX0_countByPairs 7 = .ok (.lreturn, 1) := by decide +kernel
theorem dX0_countByPairs_8 : decode cX0_countByPairs 8 = .ok (.aload_n 0, 1) := by decide +kernel
theorem dX0_countByPairs_9 : decode cX0_countByPairs 9 = .ok (.iload_n 1, 1) := by decide +kernel
theorem dX0_countByPairs_10 : decode cX0_countByPairs 10 = .ok (.aaload, 1) := by decide +kernel
theorem dX0_countByPairs_11 : decode cX0_countByPairs 11 = .ok (.astore 4, 2) := by decide +kernel
theorem dX0_countByPairs_13 : decode cX0_countByPairs 13 = .ok (.iload_n 2, 1) := by decide +kernel
theorem dX0_countByPairs_14 : decode cX0_countByPairs 14 = .ok (.istore 5, 2) := by decide +kernel
theorem dX0_countByPairs_16 : decode cX0_countByPairs 16 = .ok (.lconst 0, 1) := by decide +kernel
theorem dX0_countByPairs_17 : decode cX0_countByPairs 17 = .ok (.lstore 6, 2) := by decide +kernel
theorem dX0_countByPairs_19 : decode cX0_countByPairs 19 = .ok (.lconst 1, 1) := by decide +kernel
theorem dX0_countByPairs_20 : decode cX0_countByPairs 20 = .ok (.lstore 8, 2) := by decide +kernel
theorem dX0_countByPairs_22 : decode cX0_countByPairs 22 = .ok (.iconst 0, 1) := by decide +kernel
theorem dX0_countByPairs_23 : decode cX0_countByPairs 23 = .ok (.istore 10, 2) := by decide +kernel
theorem dX0_countByPairs_25 : decode cX0_countByPairs 25 = .ok (.iload 10, 2) := by decide +kernel
theorem dX0_countByPairs_27 : decode cX0_countByPairs 27 = .ok (.bipush 55, 2) := by decide +kernel
theorem dX0_countByPairs_29 : decode cX0_countByPairs 29 = .ok (.if_icmp .ge 164, 3) := by decide +kernel
theorem dX0_countByPairs_32 : decode cX0_countByPairs 32 = .ok (.iload 5, 2) := by decide +kernel
theorem dX0_countByPairs_34 : decode cX0_countByPairs 34 = .ok (.ifCond .eq 159, 3) := by decide +kernel
theorem dX0_countByPairs_37 : decode cX0_countByPairs 37 = .ok (.aload 4, 2) := by decide +kernel
theorem dX0_countByPairs_39 : decode cX0_countByPairs 39 = .ok (.iload 5, 2) := by decide +kernel
theorem dX0_countByPairs_41 : decode cX0_countByPairs 41 = .ok (.invokestatic 221, 3) := by decide +kernel
theorem dX0_countByPairs_44 : decode cX0_countByPairs 44 = .ok (.istore 11, 2) := by decide +kernel
theorem dX0_countByPairs_46 : decode cX0_countByPairs 46 = .ok (.iload 11, 2) := by decide +kernel
theorem dX0_countByPairs_48 : decode cX0_countByPairs 48 = .ok (.iconst (-1), 1) := by decide +kernel
theorem dX0_countByPairs_49 : decode cX0_countByPairs 49 = .ok (.if_icmp .eq 36, 3) := by decide +kernel
theorem dX0_countByPairs_52 : decode cX0_countByPairs 52 = .ok (.lload 8, 2) := by decide +kernel
theorem dX0_countByPairs_54 : decode cX0_countByPairs 54 = .ok (.iload_n 3, 1) := by decide +kernel
theorem dX0_countByPairs_55 : decode cX0_countByPairs 55 = .ok (.aload 4, 2) := by decide +kernel
theorem dX0_countByPairs_57 : decode cX0_countByPairs 57 = .ok (.iload 11, 2) := by decide +kernel
theorem dX0_countByPairs_59 : decode cX0_countByPairs 59 = .ok (.iaload, 1) := by decide +kernel
theorem dX0_countByPairs_60 : decode cX0_countByPairs 60 = .ok (.iload 5, 2) := by decide +kernel
theorem dX0_countByPairs_62 : decode cX0_countByPairs 62 = .ok (.iand, 1) := by decide +kernel
theorem dX0_countByPairs_63 : decode cX0_countByPairs 63 = .ok (.invokestatic 77, 3) := by decide +kernel
theorem dX0_countByPairs_66 : decode cX0_countByPairs 66 = .ok (.isub, 1) := by decide +kernel
theorem dX0_countByPairs_67 : decode cX0_countByPairs 67 = .ok (.i2l, 1) := by decide +kernel
theorem dX0_countByPairs_68 : decode cX0_countByPairs 68 = .ok (.lmul, 1) := by decide +kernel
theorem dX0_countByPairs_69 : decode cX0_countByPairs 69 = .ok (.lstore 8, 2) := by decide +kernel
theorem dX0_countByPairs_71 : decode cX0_countByPairs 71 = .ok (.iload 5, 2) := by decide +kernel
theorem dX0_countByPairs_73 : decode cX0_countByPairs 73 = .ok (.iconst 1, 1) := by decide +kernel
theorem dX0_countByPairs_74 : decode cX0_countByPairs 74 = .ok (.iload 11, 2) := by decide +kernel
theorem dX0_countByPairs_76 : decode cX0_countByPairs 76 = .ok (.ishl, 1) := by decide +kernel
theorem dX0_countByPairs_77 : decode cX0_countByPairs 77 = .ok (.iconst (-1), 1) := by decide +kernel
theorem dX0_countByPairs_78 : decode cX0_countByPairs 78 = .ok (.ixor, 1) := by decide +kernel
theorem dX0_countByPairs_79 : decode cX0_countByPairs 79 = .ok (.iand, 1) := by decide +kernel
theorem dX0_countByPairs_80 : decode cX0_countByPairs 80 = .ok (.istore 5, 2) := by decide +kernel
theorem dX0_countByPairs_82 : decode cX0_countByPairs 82 = .ok (.goto 105, 3) := by decide +kernel
theorem dX0_countByPairs_85 : decode cX0_countByPairs 85 = .ok (.aload 4, 2) := by decide +kernel
theorem dX0_countByPairs_87 : decode cX0_countByPairs 87 = .ok (.iload 5, 2) := by decide +kernel
theorem dX0_countByPairs_89 : decode cX0_countByPairs 89 = .ok (.invokestatic 225, 3) := by decide +kernel
theorem dX0_countByPairs_92 : decode cX0_countByPairs 92 = .ok (.istore 12, 2) := by decide +kernel
theorem dX0_countByPairs_94 : decode cX0_countByPairs 94 = .ok (.iload 5, 2) := by decide +kernel
theorem dX0_countByPairs_96 : decode cX0_countByPairs 96 = .ok (.aload 4, 2) := by decide +kernel
theorem dX0_countByPairs_98 : decode cX0_countByPairs 98 = .ok (.iload 12, 2) := by decide +kernel
theorem dX0_countByPairs_100 : decode cX0_countByPairs 100 = .ok (.iaload, 1) := by decide +kernel
theorem dX0_countByPairs_101 : decode cX0_countByPairs 101 = .ok (.iconst (-1), 1) := by decide +kernel
theorem dX0_countByPairs_102 : decode cX0_countByPairs 102 = .ok (.ixor, 1) := by decide +kernel
theorem dX0_countByPairs_103 : decode cX0_countByPairs 103 = .ok (.iand, 1) := by decide +kernel
theorem dX0_countByPairs_104 : decode cX0_countByPairs 104 = .ok (.iconst 1, 1) := by decide +kernel
theorem dX0_countByPairs_105 : decode cX0_countByPairs 105 = .ok (.iload 12, 2) := by decide +kernel
theorem dX0_countByPairs_107 : decode cX0_countByPairs 107 = .ok (.ishl, 1) := by decide +kernel
theorem dX0_countByPairs_108 : decode cX0_countByPairs 108 = .ok (.iconst (-1), 1) := by decide +kernel
theorem dX0_countByPairs_109 : decode cX0_countByPairs 109 = .ok (.ixor, 1) := by decide +kernel
theorem dX0_countByPairs_110 : decode cX0_countByPairs 110 = .ok (.iand, 1) := by decide +kernel
theorem dX0_countByPairs_111 : decode cX0_countByPairs 111 = .ok (.invokestatic 228, 3) := by decide +kernel
theorem dX0_countByPairs_114 : decode cX0_countByPairs 114 = .ok (.istore 13, 2) := by decide +kernel
theorem dX0_countByPairs_116 : decode cX0_countByPairs 116 = .ok (.iload_n 1, 1) := by decide +kernel
theorem dX0_countByPairs_117 : decode cX0_countByPairs 117 = .ok (.iconst 1, 1) := by decide +kernel
theorem dX0_countByPairs_118 : decode cX0_countByPairs 118 = .ok (.iadd, 1) := by decide +kernel
theorem dX0_countByPairs_119 : decode cX0_countByPairs 119 = .ok (.bipush 10, 2) := by decide +kernel
theorem dX0_countByPairs_121 : decode cX0_countByPairs 121 = .ok (.if_icmp .ge 42, 3) := by decide +kernel
theorem dX0_countByPairs_124 : decode cX0_countByPairs 124 = .ok (.aload 4, 2) := by decide +kernel
theorem dX0_countByPairs_126 : decode cX0_countByPairs 126 = .ok (.aload_n 0, 1) := by decide +kernel
theorem dX0_countByPairs_127 : decode cX0_countByPairs 127 = .ok (.iload_n 1, 1) := by decide +kernel
theorem dX0_countByPairs_128 : decode cX0_countByPairs 128 = .ok (.iconst 1, 1) := by decide +kernel
theorem dX0_countByPairs_129 : decode cX0_countByPairs 129 = .ok (.iadd, 1) := by decide +kernel
theorem dX0_countByPairs_130 : decode cX0_countByPairs 130 = .ok (.aaload, 1) := by decide +kernel
theorem dX0_countByPairs_131 : decode cX0_countByPairs 131 = .ok (.iload 12, 2) := by decide +kernel
theorem dX0_countByPairs_133 : decode cX0_countByPairs 133 = .ok (.iload 13, 2) := by decide +kernel
theorem dX0_countByPairs_135 : decode cX0_countByPairs 135 = .ok (.invokestatic 231, 3) := by decide +kernel
theorem dX0_countByPairs_138 : decode cX0_countByPairs 138 = .ok (.lload 6, 2) := by decide +kernel
theorem dX0_countByPairs_140 : decode cX0_countByPairs 140 = .ok (.lload 8, 2) := by decide +kernel
theorem dX0_countByPairs_142 : decode cX0_countByPairs 142 = .ok (.aload_n 0, 1) := by decide +kernel
theorem dX0_countByPairs_143 : decode cX0_countByPairs 143 = .ok (.iload_n 1, 1) := by decide +kernel
theorem dX0_countByPairs_144 : decode cX0_countByPairs 144 = .ok (.iconst 1, 1) := by decide +kernel
theorem dX0_countByPairs_145 : decode cX0_countByPairs 145 = .ok (.iadd, 1) := by decide +kernel
theorem dX0_countByPairs_146 : decode cX0_countByPairs 146 = .ok (.iload 5, 2) := by decide +kernel
theorem dX0_countByPairs_148 : decode cX0_countByPairs 148 = .ok (.iconst 1, 1) := by decide +kernel
theorem dX0_countByPairs_149 : decode cX0_countByPairs 149 = .ok (.iload 13, 2) := by decide +kernel
theorem dX0_countByPairs_151 : decode cX0_countByPairs 151 = .ok (.ishl, 1) := by decide +kernel
theorem dX0_countByPairs_152 : decode cX0_countByPairs 152 = .ok (.iconst (-1), 1) := by decide +kernel
theorem dX0_countByPairs_153 : decode cX0_countByPairs 153 = .ok (.ixor, 1) := by decide +kernel
theorem dX0_countByPairs_154 : decode cX0_countByPairs 154 = .ok (.iand, 1) := by decide +kernel
theorem dX0_countByPairs_155 : decode cX0_countByPairs 155 = .ok (.iload_n 3, 1) := by decide +kernel
theorem dX0_countByPairs_156 : decode cX0_countByPairs 156 = .ok (.invokestatic 174, 3) := by decide +kernel
theorem dX0_countByPairs_159 : decode cX0_countByPairs 159 = .ok (.lmul, 1) := by decide +kernel
theorem dX0_countByPairs_160 : decode cX0_countByPairs 160 = .ok (.ladd, 1) := by decide +kernel
theorem dX0_countByPairs_161 : decode cX0_countByPairs 161 = .ok (.lstore 6, 2) := by decide +kernel
theorem dX0_countByPairs_163 : decode cX0_countByPairs 163 = .ok (.aload 4, 2) := by decide +kernel
theorem dX0_countByPairs_165 : decode cX0_countByPairs 165 = .ok (.iload 12, 2) := by decide +kernel
theorem dX0_countByPairs_167 : decode cX0_countByPairs 167 = .ok (.dup2, 1) := by decide +kernel
theorem dX0_countByPairs_168 : decode cX0_countByPairs 168 = .ok (.iaload, 1) := by decide +kernel
theorem dX0_countByPairs_169 : decode cX0_countByPairs 169 = .ok (.iconst 1, 1) := by decide +kernel
theorem dX0_countByPairs_170 : decode cX0_countByPairs 170 = .ok (.iload 13, 2) := by decide +kernel
theorem dX0_countByPairs_172 : decode cX0_countByPairs 172 = .ok (.ishl, 1) := by decide +kernel
theorem dX0_countByPairs_173 : decode cX0_countByPairs 173 = .ok (.ior, 1) := by decide +kernel
theorem dX0_countByPairs_174 : decode cX0_countByPairs 174 = .ok (.iastore, 1) := by decide +kernel
theorem dX0_countByPairs_175 : decode cX0_countByPairs 175 = .ok (.aload 4, 2) := by decide +kernel
theorem dX0_countByPairs_177 : decode cX0_countByPairs 177 = .ok (.iload 13, 2) := by decide +kernel
theorem dX0_countByPairs_179 : decode cX0_countByPairs 179 = .ok (.dup2, 1) := by decide +kernel
theorem dX0_countByPairs_180 : decode cX0_countByPairs 180 = .ok (.iaload, 1) := by decide +kernel
theorem dX0_countByPairs_181 : decode cX0_countByPairs 181 = .ok (.iconst 1, 1) := by decide +kernel
theorem dX0_countByPairs_182 : decode cX0_countByPairs 182 = .ok (.iload 12, 2) := by decide +kernel
theorem dX0_countByPairs_184 : decode cX0_countByPairs 184 = .ok (.ishl, 1) := by decide +kernel
theorem dX0_countByPairs_185 : decode cX0_countByPairs 185 = .ok (.ior, 1) := by decide +kernel
theorem dX0_countByPairs_186 : decode cX0_countByPairs 186 = .ok (.iastore, 1) := by decide +kernel
theorem dX0_countByPairs_187 : decode cX0_countByPairs 187 = .ok (.iinc 10 1, 3) := by decide +kernel
theorem dX0_countByPairs_190 : decode cX0_countByPairs 190 = .ok (.goto (-165), 3) := by decide +kernel
theorem dX0_countByPairs_193 : decode cX0_countByPairs 193 = .ok (.lload 6, 2) := by decide +kernel
theorem dX0_countByPairs_195 : decode cX0_countByPairs 195 = .ok (.lload 8, 2) := by decide +kernel
theorem dX0_countByPairs_197 : decode cX0_countByPairs 197 = .ok (.ladd, 1) := by decide +kernel
theorem dX0_countByPairs_198 : decode cX0_countByPairs 198 = .ok (.lreturn, 1) := by decide +kernel
set_option maxRecDepth 20000 in
theorem ggX0_oneToTintLast_X0_has : GoodIn wsX0_oneToTintLast wsX0_has := goodIn_r _ [4] (by decide +kernel) (by decide +kernel)
set_option maxRecDepth 20000 in
theorem gX0_oneToTintLast_X0_has : GoodIn wsX0_oneToTintLast (va_wsS RX0 140 yX0_has wsX0_has) := goodIn_app (goodIn_of _ (by decide +kernel)) ggX0_oneToTintLast_X0_has
set_option maxRecDepth 20000 in
theorem ggX0_oneToTintLast_X0_areAllNeighbours : GoodIn wsX0_oneToTintLast wsX0_areAllNeighbours := goodIn_r _ [7, 1, 2, 3, 4] (by decide +kernel) (by decide +kernel)
set_option maxRecDepth 20000 in
theorem gX0_oneToTintLast_X0_areAllNeighbours : GoodIn wsX0_oneToTintLast (va_wsS RX0 235 yX0_areAllNeighbours wsX0_areAllNeighbours) := goodIn_app (goodIn_of _ (by decide +kernel)) ggX0_oneToTintLast_X0_areAllNeighbours
theorem dX0_oneToTintLast_0 : decode cX0_oneToTintLast 0 = .ok (.iconst 0, 1) := by decide +kernel
theorem dX0_oneToTintLast_1 : decode cX0_oneToTintLast 1 = .ok (.istore_n 2, 1) := by decide +kernel
theorem dX0_oneToTintLast_2 : decode cX0_oneToTintLast 2 = .ok (.iload_n 2, 1) := by decide +kernel
theorem dX0_oneToTintLast_3 : decode cX0_oneToTintLast 3 = .ok (.bipush 10, 2) := by decide +kernel
theorem dX0_oneToTintLast_5 : decode cX0_oneToTintLast 5 = .ok (.if_icmp .ge 31, 3) := by decide +kernel
theorem dX0_oneToTintLast_8 : decode cX0_oneToTintLast 8 = .ok (.iload_n 1, 1) := by decide +kernel
theorem dX0_oneToTintLast_9 : decode cX0_oneToTintLast 9 = .ok (.iload_n 2, 1) := by decide +kernel
theorem dX0_oneToTintLast_10 : decode cX0_oneToTintLast 10 = .ok (.invokestatic 140, 3) := by decide +kernel
theorem dX0_oneToTintLast_13 : decode cX0_oneToTintLast 13 = .ok (.ifCond .eq 17, 3) := by decide +kernel
theorem dX0_oneToTintLast_16 : decode cX0_oneToTintLast 16 = .ok (.aload_n 0, 1) := by decide +kernel
theorem dX0_oneToTintLast_17 : decode cX0_oneToTintLast 17 = .ok (.aload_n 0, 1) := by decide +kernel
theorem dX0_oneToTintLast_18 : decode cX0_oneToTintLast 18 = .ok (.iload_n 2, 1) := by decide +kernel
theorem dX0_oneToTintLast_19 : decode cX0_oneToTintLast 19 = .ok (.iaload, 1) := by decide +kernel
theorem dX0_oneToTintLast_20 : decode cX0_oneToTintLast 20 = .ok (.iload_n 1, 1) := by decide +kernel
theorem dX0_oneToTintLast_21 : decode cX0_oneToTintLast 21 = .ok (.iand, 1) := by decide +kernel
theorem dX0_oneToTintLast_22 : decode cX0_oneToTintLast 22 = .ok (.invokestatic 235, 3) := by decide +kernel
theorem dX0_oneToTintLast_25 : decode cX0_oneToTintLast 25 = .ok (.ifCond .eq 5, 3) := by decide +kernel
theorem dX0_oneToTintLast_28 : decode cX0_oneToTintLast 28 = .ok (.iload_n 2, 1) := by decide +kernel
theorem dX0_oneToTintLast_29 : decode cX0_oneToTintLast 29 = .ok (.ireturn, 1) := by decide +kernel
theorem dX0_oneToTintLast_30 : decode cX0_oneToTintLast 30 = .ok (.iinc 2 1, 3) := by decide +kernel
theorem dX0_oneToTintLast_33 : decode cX0_oneToTintLast 33 = .ok (.goto (-31), 3) := by decide +kernel
theorem dX0_oneToTintLast_36 : decode cX0_oneToTintLast 36 = .ok (.iconst (-1), 1) := by decide +kernel
theorem dX0_oneToTintLast_37 : decode cX0_oneToTintLast 37 = .ok (.ireturn, 1) := by decide +kernel
set_option maxRecDepth 20000 in
theorem ggX0_areAllNeighbours_X0_has : GoodIn wsX0_areAllNeighbours wsX0_has := goodIn_r _ [4] (by decide +kernel) (by decide +kernel)
set_option maxRecDepth 20000 in
theorem gX0_areAllNeighbours_X0_has : GoodIn wsX0_areAllNeighbours (va_wsS RX0 140 yX0_has wsX0_has) := goodIn_app (goodIn_of _ (by decide +kernel)) ggX0_areAllNeighbours_X0_has
theorem dX0_areAllNeighbours_0 : decode cX0_areAllNeighbours 0 = .ok (.iconst 0, 1) := by decide +kernel
theorem dX0_areAllNeighbours_1 : decode cX0_areAllNeighbours 1 = .ok (.istore_n 2, 1) := by decide +kernel
theorem dX0_areAllNeighbours_2 : decode cX0_areAllNeighbours 2 = .ok (.iload_n 2, 1) := by decide +kernel
theorem dX0_areAllNeighbours_3 : decode cX0_areAllNeighbours 3 = .ok (.bipush 10, 2) := by decide +kernel
theorem dX0_areAllNeighbours_5 : decode cX0_areAllNeighbours 5 = .ok (.if_icmp .ge 35, 3) := by decide +kernel
theorem dX0_areAllNeighbours_8 : decode cX0_areAllNeighbours 8 = .ok (.iload_n 1, 1) := by decide +kernel
theorem dX0_areAllNeighbours_9 : decode cX0_areAllNeighbours 9 = .ok (.iload_n 2, 1) := by decide +kernel
theorem dX0_areAllNeighbours_10 : decode cX0_areAllNeighbours 10 = .ok (.invokestatic 140, 3) := by decide +kernel
theorem dX0_areAllNeighbours_13 : decode cX0_areAllNeighbours 13 = .ok (.ifCond .eq 21, 3) := by decide +kernel
theorem dX0_areAllNeighbours_16 : decode cX0_areAllNeighbours 16 = .ok (.iload_n 1, 1) := by decide +kernel
theorem dX0_areAllNeighbours_17 : decode cX0_areAllNeighbours 17 = .ok (.aload_n 0, 1) := by decide +kernel
theorem dX0_areAllNeighbours_18 : decode cX0_areAllNeighbours 18 = .ok (.iload_n 2, 1) := by decide +kernel
theorem dX0_areAllNeighbours_19 : decode cX0_areAllNeighbours 19 = .ok (.iaload, 1) := by decide +kernel
theorem dX0_areAllNeighbours_20 : decode cX0_areAllNeighbours 20 = .ok (.iconst (-1), 1) := by decide +kernel
theorem dX0_areAllNeighbours_21 : decode cX0_areAllNeighbours 21 = .ok (.ixor, 1) := by decide +kernel
theorem dX0_areAllNeighbours_22 : decode cX0_areAllNeighbours 22 = .ok (.iand, 1) := by decide +kernel
theorem dX0_areAllNeighbours_23 : decode cX0_areAllNeighbours 23 = .ok (.iconst 1, 1) := by decide +kernel
theorem dX0_areAllNeighbours_24 : decode cX0_areAllNeighbours 24 = .ok (.iload_n 2, 1) := by decide +kernel
theorem dX0_areAllNeighbours_25 : decode cX0_areAllNeighbours 25 = .ok (.ishl, 1) := by decide +kernel
theorem dX0_areAllNeighbours_26 : decode cX0_areAllNeighbours 26 = .ok (.iconst (-1), 1) := by decide +kernel
theorem dX0_areAllNeighbours_27 : decode cX0_areAllNeighbours 27 = .ok (.ixor, 1) := by decide +kernel
theorem dX0_areAllNeighbours_28 : decode cX0_areAllNeighbours 28 = .ok (.iand, 1) := by decide +kernel
theorem dX0_areAllNeighbours_29 : decode cX0_areAllNeighbours 29 = .ok (.ifCond .eq 5, 3) := by decide +kernel
theorem dX0_areAllNeighbours_32 : decode cX0_areAllNeighbours 32 = .ok (.iconst 0, 1) := by decide +kernel
theorem dX0_areAllNeighbours_33 : decode cX0_areAllNeighbours 33 = .ok (.ireturn, 1) := by decide +kernel
theorem dX0_areAllNeighbours_34 : decode cX0_areAllNeighbours 34 = .ok (.iinc 2 1, 3) := by decide +kernel
theorem dX0_areAllNeighbours_37 : decode cX0_areAllNeighbours 37 = .ok (.goto (-35), 3) := by decide +kernel
theorem dX0_areAllNeighbours_40 : decode cX0_areAllNeighbours 40 = .ok (.iconst 1, 1) := by decide +kernel
theorem dX0_areAllNeighbours_41 : decode cX0_areAllNeighbours 41 = .ok (.ireturn, 1) := by decide +kernel
set_option maxRecDepth 20000 in
theorem ggX0_firstWithStranger_X0_has : GoodIn wsX0_firstWithStranger wsX0_has := goodIn_r _ [4] (by decide +kernel) (by decide +kernel)
set_option maxRecDepth 20000 in
theorem gX0_firstWithStranger_X0_has : GoodIn wsX0_firstWithStranger (va_wsS RX0 140 yX0_has wsX0_has) := goodIn_app (goodIn_of _ (by decide +kernel)) ggX0_firstWithStranger_X0_has
theorem dX0_firstWithStranger_0 : decode cX0_firstWithStranger 0 = .ok (.iconst 0, 1) := by decide +kernel
theorem dX0_firstWithStranger_1 : decode cX0_firstWithStranger 1 = .ok (.istore_n 2, 1) := by decide +kernel
theorem dX0_firstWithStranger_2 : decode cX0_firstWithStranger 2 = .ok (.iload_n 2, 1) := by decide +kernel
theorem dX0_firstWithStranger_3 : decode cX0_firstWithStranger 3 = .ok (.bipush 9, 2) := by decide +kernel
theorem dX0_firstWithStranger_5 : decode cX0_firstWithStranger 5 = .ok (.if_icmp .ge 35, 3) := by decide +kernel
theorem dX0_firstWithStranger_8 : decode cX0_firstWithStranger 8 = .ok (.iload_n 1, 1) := by decide +kernel
theorem dX0_firstWithStranger_9 : decode cX0_firstWithStranger 9 = .ok (.iload_n 2, 1) := by decide +kernel
theorem dX0_firstWithStranger_10 : decode cX0_firstWithStranger 10 = .ok (.invokestatic 140, 3) := by decide +kernel
theorem dX0_firstWithStranger_13 : decode cX0_firstWithStranger 13 = .ok (.ifCond .eq 21, 3) := by decide +kernel
theorem dX0_firstWithStranger_16 : decode cX0_firstWithStranger 16 = .ok (.iload_n 1, 1) := by decide +kernel
theorem dX0_firstWithStranger_17 : decode cX0_firstWithStranger 17 = .ok (.aload_n 0, 1) := by decide +kernel
theorem dX0_firstWithStranger_18 : decode cX0_firstWithStranger 18 = .ok (.iload_n 2, 1) := by decide +kernel
theorem dX0_firstWithStranger_19 : decode cX0_firstWithStranger 19 = .ok (.iaload, 1) := by decide +kernel
theorem dX0_firstWithStranger_20 : decode cX0_firstWithStranger 20 = .ok (.iconst (-1), 1) := by decide +kernel
theorem dX0_firstWithStranger_21 : decode cX0_firstWithStranger 21 = .ok (.ixor, 1) := by decide +kernel
theorem dX0_firstWithStranger_22 : decode cX0_firstWithStranger 22 = .ok (.iand, 1) := by decide +kernel
theorem dX0_firstWithStranger_23 : decode cX0_firstWithStranger 23 = .ok (.iconst 1, 1) := by decide +kernel
theorem dX0_firstWithStranger_24 : decode cX0_firstWithStranger 24 = .ok (.iload_n 2, 1) := by decide +kernel
theorem dX0_firstWithStranger_25 : decode cX0_firstWithStranger 25 = .ok (.ishl, 1) := by decide +kernel
theorem dX0_firstWithStranger_26 : decode cX0_firstWithStranger 26 = .ok (.iconst (-1), 1) := by decide +kernel
theorem dX0_firstWithStranger_27 : decode cX0_firstWithStranger 27 = .ok (.ixor, 1) := by decide +kernel
theorem dX0_firstWithStranger_28 : decode cX0_firstWithStranger 28 = .ok (.iand, 1) := by decide +kernel
theorem dX0_firstWithStranger_29 : decode cX0_firstWithStranger 29 = .ok (.ifCond .eq 5, 3) := by decide +kernel
theorem dX0_firstWithStranger_32 : decode cX0_firstWithStranger 32 = .ok (.iload_n 2, 1) := by decide +kernel
theorem dX0_firstWithStranger_33 : decode cX0_firstWithStranger 33 = .ok (.ireturn, 1) := by decide +kernel
theorem dX0_firstWithStranger_34 : decode cX0_firstWithStranger 34 = .ok (.iinc 2 1, 3) := by decide +kernel
theorem dX0_firstWithStranger_37 : decode cX0_firstWithStranger 37 = .ok (.goto (-35), 3) := by decide +kernel
theorem dX0_firstWithStranger_40 : decode cX0_firstWithStranger 40 = .ok (.bipush 9, 2) := by decide +kernel
theorem dX0_firstWithStranger_42 : decode cX0_firstWithStranger 42 = .ok (.ireturn, 1) := by decide +kernel
set_option maxRecDepth 20000 in
theorem ggX0_firstOf_X0_has : GoodIn wsX0_firstOf wsX0_has := goodIn_r _ [4] (by decide +kernel) (by decide +kernel)
set_option maxRecDepth 20000 in
theorem gX0_firstOf_X0_has : GoodIn wsX0_firstOf (va_wsS RX0 140 yX0_has wsX0_has) := goodIn_app (goodIn_of _ (by decide +kernel)) ggX0_firstOf_X0_has
theorem dX0_firstOf_0 : decode cX0_firstOf 0 = .ok (.iconst 0, 1) := by decide +kernel
theorem dX0_firstOf_1 : decode cX0_firstOf 1 = .ok (.istore_n 1, 1) := by decide +kernel
theorem dX0_firstOf_2 : decode cX0_firstOf 2 = .ok (.iload_n 1, 1) := by decide +kernel
theorem dX0_firstOf_3 : decode cX0_firstOf 3 = .ok (.bipush 9, 2) := by decide +kernel
theorem dX0_firstOf_5 : decode cX0_firstOf 5 = .ok (.if_icmp .ge 19, 3) := by decide +kernel
theorem dX0_firstOf_8 : decode cX0_firstOf 8 = .ok (.iload_n 0, 1) := by decide +kernel
theorem dX0_firstOf_9 : decode cX0_firstOf 9 = .ok (.iload_n 1, 1) := by decide +kernel
theorem dX0_firstOf_10 : decode cX0_firstOf 10 = .ok (.invokestatic 140, 3) := by decide +kernel
theorem dX0_firstOf_13 : decode cX0_firstOf 13 = .ok (.ifCond .eq 5, 3) := by decide +kernel
theorem dX0_firstOf_16 : decode cX0_firstOf 16 = .ok (.iload_n 1, 1) := by decide +kernel
theorem dX0_firstOf_17 : decode cX0_firstOf 17 = .ok (.ireturn, 1) := by decide +kernel
theorem dX0_firstOf_18 : decode cX0_firstOf 18 = .ok (.iinc 1 1, 3) := by decide +kernel
theorem dX0_firstOf_21 : decode cX0_firstOf 21 = .ok (.goto (-19), 3) := by decide +kernel
theorem dX0_firstOf_24 : decode cX0_firstOf 24 = .ok (.bipush 9, 2) := by decide +kernel
theorem dX0_firstOf_26 : decode cX0_firstOf 26 = .ok (.ireturn, 1) := by decide +kernel
set_option maxRecDepth 20000 in
theorem ggX0_makeOne_X0_has : GoodIn wsX0_makeOne wsX0_has := goodIn_r _ [4] (by decide +kernel) (by decide +kernel)
set_option maxRecDepth 20000 in
theorem gX0_makeOne_X0_has : GoodIn wsX0_makeOne (va_wsS RX0 140 yX0_has wsX0_has) := goodIn_app (goodIn_of _ (by decide +kernel)) ggX0_makeOne_X0_has
theorem dX0_makeOne_0 : decode cX0_makeOne 0 = .ok (.iconst 0, 1) := by decide +kernel
theorem dX0_makeOne_1 : decode cX0_makeOne 1 = .ok (.istore 4, 2) := by decide +kernel
theorem dX0_makeOne_3 : decode cX0_makeOne 3 = .ok (.iload 4, 2) := by decide +kernel
theorem dX0_makeOne_5 : decode cX0_makeOne 5 = .ok (.bipush 10, 2) := by decide +kernel
theorem dX0_makeOne_7 : decode cX0_makeOne 7 = .ok (.if_icmp .ge 39, 3) := by decide +kernel
theorem dX0_makeOne_10 : decode cX0_makeOne 10 = .ok (.aload_n 1, 1) := by decide +kernel
theorem dX0_makeOne_11 : decode cX0_makeOne 11 = .ok (.iload 4, 2) := by decide +kernel
theorem dX0_makeOne_13 : decode cX0_makeOne 13 = .ok (.aload_n 0, 1) := by decide +kernel
theorem dX0_makeOne_14 : decode cX0_makeOne 14 = .ok (.iload 4, 2) := by decide +kernel
theorem dX0_makeOne_16 : decode cX0_makeOne 16 = .ok (.iaload, 1) := by decide +kernel
theorem dX0_makeOne_17 : decode cX0_makeOne 17 = .ok (.iload_n 3, 1) := by decide +kernel
theorem dX0_makeOne_18 : decode cX0_makeOne 18 = .ok (.invokestatic 140, 3) := by decide +kernel
theorem dX0_makeOne_21 : decode cX0_makeOne 21 = .ok (.ifCond .eq 14, 3) := by decide +kernel
theorem dX0_makeOne_24 : decode cX0_makeOne 24 = .ok (.aload_n 0, 1) := by decide +kernel
theorem dX0_makeOne_25 : decode cX0_makeOne 25 = .ok (.iload 4, 2) := by decide +kernel
theorem dX0_makeOne_27 : decode cX0_makeOne 27 = .ok (.iaload, 1) := by decide +kernel
theorem dX0_makeOne_28 : decode cX0_makeOne 28 = .ok (.iconst 1, 1) := by decide +kernel
theorem dX0_makeOne_29 : decode cX0_makeOne 29 = .ok (.iload_n 2, 1) := by decide +kernel
theorem dX0_makeOne_30 : decode cX0_makeOne 30 = .ok (.ishl, 1) := by decide +kernel
theorem dX0_makeOne_31 : decode cX0_makeOne 31 = .ok (.ior, 1) := by decide +kernel
theorem dX0_makeOne_32 : decode cX0_makeOne 32 = .ok (.goto 7, 3) := by decide +kernel
theorem dX0_makeOne_35 : decode cX0_makeOne 35 = .ok (.aload_n 0, 1) := by decide +kernel
theorem dX0_makeOne_36 : decode cX0_makeOne 36 = .ok (.iload 4, 2) := by decide +kernel
theorem dX0_makeOne_38 : decode cX0_makeOne 38 = .ok (.iaload, 1) := by decide +kernel
theorem dX0_makeOne_39 : decode cX0_makeOne 39 = .ok (.iastore, 1) := by decide +kernel
theorem dX0_makeOne_40 : decode cX0_makeOne 40 = .ok (.iinc 4 1, 3) := by decide +kernel
theorem dX0_makeOne_43 : decode cX0_makeOne 43 = .ok (.goto (-40), 3) := by decide +kernel
theorem dX0_makeOne_46 : decode cX0_makeOne 46 = .ok (.aload_n 1, 1) := by decide +kernel
theorem dX0_makeOne_47 : decode cX0_makeOne 47 = .ok (.iload_n 2, 1) := by decide +kernel
theorem dX0_makeOne_48 : decode cX0_makeOne 48 = .ok (.aload_n 0, 1) := by decide +kernel
theorem dX0_makeOne_49 : decode cX0_makeOne 49 = .ok (.iload_n 2, 1) := by decide +kernel
theorem dX0_makeOne_50 : decode cX0_makeOne 50 = .ok (.iaload, 1) := by decide +kernel
theorem dX0_makeOne_51 : decode cX0_makeOne 51 = .ok (.aload_n 0, 1) := by decide +kernel
theorem dX0_makeOne_52 : decode cX0_makeOne 52 = .ok (.iload_n 3, 1) := by decide +kernel
theorem dX0_makeOne_53 : decode cX0_makeOne 53 = .ok (.iaload, 1) := by decide +kernel
theorem dX0_makeOne_54 : decode cX0_makeOne 54 = .ok (.ior, 1) := by decide +kernel
theorem dX0_makeOne_55 : decode cX0_makeOne 55 = .ok (.iastore, 1) := by decide +kernel
theorem dX0_makeOne_56 : decode cX0_makeOne 56 = .ok (.return_, 1) := by decide +kernel
theorem dX1_init_0 : decode cX1_init 0 = .ok (.aload_n 0, 1) := by decide +kernel
theorem dX1_init_1 : decode cX1_init 1 = .ok (.invokespecial 3, 3) := by decide +kernel
theorem dX1_init_4 : decode cX1_init 4 = .ok (.aload_n 0, 1) := by decide +kernel
theorem dX1_init_5 : decode cX1_init 5 = .ok (.bipush 36, 2) := by decide +kernel
theorem dX1_init_7 : decode cX1_init 7 = .ok (.newarray .int, 2) := by decide +kernel
theorem dX1_init_9 : decode cX1_init 9 = .ok (.putfield 9, 3) := by decide +kernel
theorem dX1_init_12 : decode cX1_init 12 = .ok (.aload_n 0, 1) := by decide +kernel
theorem dX1_init_13 : decode cX1_init 13 = .ok (.bipush 10, 2) := by decide +kernel
theorem dX1_init_15 : decode cX1_init 15 = .ok (.newarray .int, 2) := by decide +kernel
theorem dX1_init_17 : decode cX1_init 17 = .ok (.putfield 13, 3) := by decide +kernel
theorem dX1_init_20 : decode cX1_init 20 = .ok (.aload_n 0, 1) := by decide +kernel
theorem dX1_init_21 : decode cX1_init 21 = .ok (.bipush 10, 2) := by decide +kernel
theorem dX1_init_23 : decode cX1_init 23 = .ok (.newarray .long, 2) := by decide +kernel
theorem dX1_init_25 : decode cX1_init 25 = .ok (.putfield 16, 3) := by decide +kernel
theorem dX1_init_28 : decode cX1_init 28 = .ok (.aload_n 0, 1) := by decide +kernel
theorem dX1_init_29 : decode cX1_init 29 = .ok (.bipush 10, 2) := by decide +kernel
theorem dX1_init_31 : decode cX1_init 31 = .ok (.newarray .int, 2) := by decide +kernel
theorem dX1_init_33 : decode cX1_init 33 = .ok (.putfield 20, 3) := by decide +kernel
theorem dX1_init_36 : decode cX1_init 36 = .ok (.aload_n 0, 1) := by decide +kernel
theorem dX1_init_37 : decode cX1_init 37 = .ok (.sipush 1024, 3) := by decide +kernel
theorem dX1_init_40 : decode cX1_init 40 = .ok (.newarray .long, 2) := by decide +kernel
theorem dX1_init_42 : decode cX1_init 42 = .ok (.putfield 23, 3) := by decide +kernel
theorem dX1_init_45 : decode cX1_init 45 = .ok (.aload_n 0, 1) := by decide +kernel
theorem dX1_init_46 : decode cX1_init 46 = .ok (.sipush 1024, 3) := by decide +kernel
theorem dX1_init_49 : decode cX1_init 49 = .ok (.newarray .long, 2) := by decide +kernel
theorem dX1_init_51 : decode cX1_init 51 = .ok (.putfield 26, 3) := by decide +kernel
theorem dX1_init_54 : decode cX1_init 54 = .ok (.iconst 0, 1) := by decide +kernel
theorem dX1_init_55 : decode cX1_init 55 = .ok (.istore_n 1, 1) := by decide +kernel
theorem dX1_init_56 : decode cX1_init 56 = .ok (.iload_n 1, 1) := by decide +kernel
theorem dX1_init_57 : decode cX1_init 57 = .ok (.bipush 36, 2) := by decide +kernel
theorem dX1_init_59 : decode cX1_init 59 = .ok (.if_icmp .ge 16, 3) := by decide +kernel
theorem dX1_init_62 : decode cX1_init 62 = .ok (.aload_n 0, 1) := by decide +kernel
theorem dX1_init_63 : decode cX1_init 63 = .ok (.getfield 9, 3) := by decide +kernel
theorem dX1_init_66 : decode cX1_init 66 = .ok (.iload_n 1, 1) := by decide +kernel
theorem dX1_init_67 : decode cX1_init 67 = .ok (.iconst (-1), 1) := by decide +kernel
theorem dX1_init_68 : decode cX1_init 68 = .ok (.iastore, 1) := by decide +kernel
theorem dX1_init_69 : decode cX1_init 69 = .ok (.iinc 1 1, 3) := by decide +kernel
theorem dX1_init_72 : decode cX1_init 72 = .ok (.goto (-16), 3) := by decide +kernel
theorem dX1_init_75 : decode cX1_init 75 = .ok (.return_, 1) := by decide +kernel
theorem dX1_thrown_0 : decode cX1_thrown 0 = .ok (.aload_n 0, 1) := by decide +kernel
theorem dX1_thrown_1 : decode cX1_thrown 1 = .ok (.getfield 29, 3) := by decide +kernel
theorem dX1_thrown_4 : decode cX1_thrown 4 = .ok (.ireturn, 1) := by decide +kernel
theorem dX1_in_0 : decode cX1_in 0 = .ok (.iload_n 0, 1) := by decide +kernel
theorem dX1_in_1 : decode cX1_in 1 = .ok (.iload_n 1, 1) := by decide +kernel
theorem dX1_in_2 : decode cX1_in 2 = .ok (.if_icmp .lt 12, 3) := by decide +kernel
theorem dX1_in_5 : decode cX1_in 5 = .ok (.iload_n 0, 1) := by decide +kernel
theorem dX1_in_6 : decode cX1_in 6 = .ok (.iload_n 2, 1) := by decide +kernel
theorem dX1_in_7 : decode cX1_in 7 = .ok (.if_icmp .gt 7, 3) := by decide +kernel
theorem dX1_in_10 : decode cX1_in 10 = .ok (.iconst 1, 1) := by decide +kernel
theorem dX1_in_11 : decode cX1_in 11 = .ok (.goto 4, 3) := by decide +kernel
theorem dX1_in_14 : decode cX1_in 14 = .ok (.iconst 0, 1) := by decide +kernel
theorem dX1_in_15 : decode cX1_in 15 = .ok (.ireturn, 1) := by decide +kernel
theorem dX1_goes_0 : decode cX1_goes 0 = .ok (.aload_n 0, 1) := by decide +kernel
theorem dX1_goes_1 : decode cX1_goes 1 = .ok (.iload_n 1, 1) := by decide +kernel
theorem dX1_goes_2 : decode cX1_goes 2 = .ok (.ifCond .ne 7, 3) := by decide +kernel
theorem dX1_goes_5 : decode cX1_goes 5 = .ok (.iconst 1, 1) := by decide +kernel
theorem dX1_goes_6 : decode cX1_goes 6 = .ok (.goto 20, 3) := by decide +kernel
theorem dX1_goes_9 : decode cX1_goes 9 = .ok (.iload_n 2, 1) := by decide +kernel
theorem dX1_goes_10 : decode cX1_goes 10 = .ok (.ifCond .ne 7, 3) := by decide +kernel
theorem dX1_goes_13 : decode cX1_goes 13 = .ok (.iconst 2, 1) := by decide +kernel
theorem dX1_goes_14 : decode cX1_goes 14 = .ok (.goto 12, 3) := by decide +kernel
theorem dX1_goes_17 : decode cX1_goes 17 = .ok (.iload_n 3, 1) := by decide +kernel
theorem dX1_goes_18 : decode cX1_goes 18 = .ok (.ifCond .ne 7, 3) := by decide +kernel
theorem dX1_goes_21 : decode cX1_goes 21 = .ok (.iconst 3, 1) := by decide +kernel
theorem dX1_goes_22 : decode cX1_goes 22 = .ok (.goto 4, 3) := by decide +kernel
theorem dX1_goes_25 : decode cX1_goes 25 = .ok (.iconst 0, 1) := by decide +kernel
theorem dX1_goes_26 : decode cX1_goes 26 = .ok (.putfield 29, 3) := by decide +kernel
theorem dX1_goes_29 : decode cX1_goes 29 = .ok (.aload_n 0, 1) := by decide +kernel
theorem dX1_goes_30 : decode cX1_goes 30 = .ok (.getfield 29, 3) := by decide +kernel
theorem dX1_goes_33 : decode cX1_goes 33 = .ok (.ifCond .ne 7, 3) := by decide +kernel
theorem dX1_goes_36 : decode cX1_goes 36 = .ok (.iconst 1, 1) := by decide +kernel
theorem dX1_goes_37 : decode cX1_goes 37 = .ok (.goto 4, 3) := by decide +kernel
theorem dX1_goes_40 : decode cX1_goes 40 = .ok (.iconst 0, 1) := by decide +kernel
end
section
theorem dX1_goes_41 : decode cX1_goes 41 = .ok (.ireturn, 1) := by decide +kernel
theorem dX1_told_0 : decode cX1_told 0 = .ok (.aload_n 0, 1) := by decide +kernel
theorem dX1_told_1 : decode cX1_told 1 = .ok (.iconst 0, 1) := by decide +kernel
theorem dX1_told_2 : decode cX1_told 2 = .ok (.putfield 29, 3) := by decide +kernel
theorem dX1_told_5 : decode cX1_told 5 = .ok (.iload_n 1, 1) := by decide +kernel
theorem dX1_told_6 : decode cX1_told 6 = .ok (.ireturn, 1) := by decide +kernel
set_option maxRecDepth 20000 in
theorem ggX1_isCell_X1_in : GoodIn wsX1_isCell wsX1_in := goodIn_r _ [4] (by decide +kernel) (by decide +kernel)
set_option maxRecDepth 20000 in
theorem gX1_isCell_X1_in : GoodIn wsX1_isCell (va_wsS RX1 33 yX1_in wsX1_in) := goodIn_app (goodIn_of _ (by decide +kernel)) ggX1_isCell_X1_in
theorem dX1_isCell_0 : decode cX1_isCell 0 = .ok (.iload_n 0, 1) := by decide +kernel
theorem dX1_isCell_1 : decode cX1_isCell 1 = .ok (.iconst 0, 1) := by decide +kernel
theorem dX1_isCell_2 : decode cX1_isCell 2 = .ok (.iconst 5, 1) := by decide +kernel
theorem dX1_isCell_3 : decode cX1_isCell 3 = .ok (.invokestatic 33, 3) := by decide +kernel
theorem dX1_isCell_6 : decode cX1_isCell 6 = .ok (.ifCond .eq 16, 3) := by decide +kernel
theorem dX1_isCell_9 : decode cX1_isCell 9 = .ok (.iload_n 1, 1) := by decide +kernel
theorem dX1_isCell_10 : decode cX1_isCell 10 = .ok (.iconst 0, 1) := by decide +kernel
theorem dX1_isCell_11 : decode cX1_isCell 11 = .ok (.iconst 5, 1) := by decide +kernel
theorem dX1_isCell_12 : decode cX1_isCell 12 = .ok (.invokestatic 33, 3) := by decide +kernel
theorem dX1_isCell_15 : decode cX1_isCell 15 = .ok (.ifCond .eq 7, 3) := by decide +kernel
theorem dX1_isCell_18 : decode cX1_isCell 18 = .ok (.iconst 1, 1) := by decide +kernel
theorem dX1_isCell_19 : decode cX1_isCell 19 = .ok (.goto 4, 3) := by decide +kernel
theorem dX1_isCell_22 : decode cX1_isCell 22 = .ok (.iconst 0, 1) := by decide +kernel
theorem dX1_isCell_23 : decode cX1_isCell 23 = .ok (.ireturn, 1) := by decide +kernel
set_option maxRecDepth 20000 in
theorem ggX1_isCountry_X1_in : GoodIn wsX1_isCountry wsX1_in := goodIn_r _ [4] (by decide +kernel) (by decide +kernel)
set_option maxRecDepth 20000 in
theorem gX1_isCountry_X1_in : GoodIn wsX1_isCountry (va_wsS RX1 33 yX1_in wsX1_in) := goodIn_app (goodIn_of _ (by decide +kernel)) ggX1_isCountry_X1_in
theorem dX1_isCountry_0 : decode cX1_isCountry 0 = .ok (.iload_n 0, 1) := by decide +kernel
theorem dX1_isCountry_1 : decode cX1_isCountry 1 = .ok (.iconst 0, 1) := by decide +kernel
theorem dX1_isCountry_2 : decode cX1_isCountry 2 = .ok (.bipush 9, 2) := by decide +kernel
theorem dX1_isCountry_4 : decode cX1_isCountry 4 = .ok (.invokestatic 33, 3) := by decide +kernel
theorem dX1_isCountry_7 : decode cX1_isCountry 7 = .ok (.ireturn, 1) := by decide +kernel
theorem dX1_bits_0 : decode cX1_bits 0 = .ok (.iconst 0, 1) := by decide +kernel
theorem dX1_bits_1 : decode cX1_bits 1 = .ok (.istore_n 2, 1) := by decide +kernel
theorem dX1_bits_2 : decode cX1_bits 2 = .ok (.iconst 0, 1) := by decide +kernel
theorem dX1_bits_3 : decode cX1_bits 3 = .ok (.istore_n 3, 1) := by decide +kernel
theorem dX1_bits_4 : decode cX1_bits 4 = .ok (.iload_n 3, 1) := by decide +kernel
theorem dX1_bits_5 : decode cX1_bits 5 = .ok (.bipush 36, 2) := by decide +kernel
theorem dX1_bits_7 : decode cX1_bits 7 = .ok (.if_icmp .ge 18, 3) := by decide +kernel
theorem dX1_bits_10 : decode cX1_bits 10 = .ok (.iload_n 2, 1) := by decide +kernel
theorem dX1_bits_11 : decode cX1_bits 11 = .ok (.lload_n 0, 1) := by decide +kernel
theorem dX1_bits_12 : decode cX1_bits 12 = .ok (.iload_n 3, 1) := by decide +kernel
theorem dX1_bits_13 : decode cX1_bits 13 = .ok (.lshr, 1) := by decide +kernel
theorem dX1_bits_14 : decode cX1_bits 14 = .ok (.lconst 1, 1) := by decide +kernel
theorem dX1_bits_15 : decode cX1_bits 15 = .ok (.land, 1) := by decide +kernel
theorem dX1_bits_16 : decode cX1_bits 16 = .ok (.l2i, 1) := by decide +kernel
theorem dX1_bits_17 : decode cX1_bits 17 = .ok (.iadd, 1) := by decide +kernel
theorem dX1_bits_18 : decode cX1_bits 18 = .ok (.istore_n 2, 1) := by decide +kernel
theorem dX1_bits_19 : decode cX1_bits 19 = .ok (.iinc 3 1, 3) := by decide +kernel
theorem dX1_bits_22 : decode cX1_bits 22 = .ok (.goto (-18), 3) := by decide +kernel
theorem dX1_bits_25 : decode cX1_bits 25 = .ok (.iload_n 2, 1) := by decide +kernel
theorem dX1_bits_26 : decode cX1_bits 26 = .ok (.ireturn, 1) := by decide +kernel
theorem dX1_spread_0 : decode cX1_spread 0 = .ok (.lload_n 0, 1) := by decide +kernel
theorem dX1_spread_1 : decode cX1_spread 1 = .ok (.lload_n 0, 1) := by decide +kernel
theorem dX1_spread_2 : decode cX1_spread 2 = .ok (.bipush 6, 2) := by decide +kernel
theorem dX1_spread_4 : decode cX1_spread 4 = .ok (.lshl, 1) := by decide +kernel
theorem dX1_spread_5 : decode cX1_spread 5 = .ok (.lor, 1) := by decide +kernel
theorem dX1_spread_6 : decode cX1_spread 6 = .ok (.lload_n 0, 1) := by decide +kernel
theorem dX1_spread_7 : decode cX1_spread 7 = .ok (.bipush 6, 2) := by decide +kernel
theorem dX1_spread_9 : decode cX1_spread 9 = .ok (.lshr, 1) := by decide +kernel
theorem dX1_spread_10 : decode cX1_spread 10 = .ok (.lor, 1) := by decide +kernel
theorem dX1_spread_11 : decode cX1_spread 11 = .ok (.lload_n 0, 1) := by decide +kernel
theorem dX1_spread_12 : decode cX1_spread 12 = .ok (.ldc2_w 37, 3) := by decide +kernel
theorem dX1_spread_15 : decode cX1_spread 15 = .ok (.land, 1) := by decide +kernel
theorem dX1_spread_16 : decode cX1_spread 16 = .ok (.iconst 1, 1) := by decide +kernel
theorem dX1_spread_17 : decode cX1_spread 17 = .ok (.lshl, 1) := by decide +kernel
theorem dX1_spread_18 : decode cX1_spread 18 = .ok (.lor, 1) := by decide +kernel
theorem dX1_spread_19 : decode cX1_spread 19 = .ok (.lload_n 0, 1) := by decide +kernel
theorem dX1_spread_20 : decode cX1_spread 20 = .ok (.ldc2_w 39, 3) := by decide +kernel
theorem dX1_spread_23 : decode cX1_spread 23 = .ok (.land, 1) := by decide +kernel
theorem dX1_spread_24 : decode cX1_spread 24 = .ok (.iconst 1, 1) := by decide +kernel
theorem dX1_spread_25 : decode cX1_spread 25 = .ok (.lshr, 1) := by decide +kernel
theorem dX1_spread_26 : decode cX1_spread 26 = .ok (.lor, 1) := by decide +kernel
theorem dX1_spread_27 : decode cX1_spread 27 = .ok (.ldc2_w 41, 3) := by decide +kernel
theorem dX1_spread_30 : decode cX1_spread 30 = .ok (.land, 1) := by decide +kernel
theorem dX1_spread_31 : decode cX1_spread 31 = .ok (.lreturn, 1) := by decide +kernel
set_option maxRecDepth 20000 in
theorem ggX1_reach_X1_spread : GoodIn wsX1_reach wsX1_spread := goodIn_r _ [4, 5, 6, 7] (by decide +kernel) (by decide +kernel)
set_option maxRecDepth 20000 in
theorem gX1_reach_X1_spread : GoodIn wsX1_reach (va_wsS RX1 43 yX1_spread wsX1_spread) := goodIn_app (goodIn_of _ (by decide +kernel)) ggX1_reach_X1_spread
theorem dX1_reach_0 : decode cX1_reach 0 = .ok (.lconst 0, 1) := by decide +kernel
theorem dX1_reach_1 : decode cX1_reach 1 = .ok (.lstore 4, 2) := by decide +kernel
theorem dX1_reach_3 : decode cX1_reach 3 = .ok (.lload_n 0, 1) := by decide +kernel
theorem dX1_reach_4 : decode cX1_reach 4 = .ok (.lload_n 2, 1) := by decide +kernel
theorem dX1_reach_5 : decode cX1_reach 5 = .ok (.land, 1) := by decide +kernel
theorem dX1_reach_6 : decode cX1_reach 6 = .ok (.lstore 6, 2) := by decide +kernel
theorem dX1_reach_8 : decode cX1_reach 8 = .ok (.lload 6, 2) := by decide +kernel
theorem dX1_reach_10 : decode cX1_reach 10 = .ok (.lload 4, 2) := by decide +kernel
theorem dX1_reach_12 : decode cX1_reach 12 = .ok (.lcmp, 1) := by decide +kernel
theorem dX1_reach_13 : decode cX1_reach 13 = .ok (.ifCond .eq 19, 3) := by decide +kernel
theorem dX1_reach_16 : decode cX1_reach 16 = .ok (.lload 6, 2) := by decide +kernel
theorem dX1_reach_18 : decode cX1_reach 18 = .ok (.lstore 4, 2) := by decide +kernel
theorem dX1_reach_20 : decode cX1_reach 20 = .ok (.lload 6, 2) := by decide +kernel
theorem dX1_reach_22 : decode cX1_reach 22 = .ok (.invokestatic 43, 3) := by decide +kernel
theorem dX1_reach_25 : decode cX1_reach 25 = .ok (.lload_n 2, 1) := by decide +kernel
theorem dX1_reach_26 : decode cX1_reach 26 = .ok (.land, 1) := by decide +kernel
theorem dX1_reach_27 : decode cX1_reach 27 = .ok (.lstore 6, 2) := by decide +kernel
theorem dX1_reach_29 : decode cX1_reach 29 = .ok (.goto (-21), 3) := by decide +kernel
theorem dX1_reach_32 : decode cX1_reach 32 = .ok (.lload 6, 2) := by decide +kernel
theorem dX1_reach_34 : decode cX1_reach 34 = .ok (.lreturn, 1) := by decide +kernel
set_option maxRecDepth 20000 in
theorem ggX1_looks_X1_spread : GoodIn wsX1_looks wsX1_spread := goodIn_r _ [8, 9, 10, 11] (by decide +kernel) (by decide +kernel)
set_option maxRecDepth 20000 in
theorem gX1_looks_X1_spread : GoodIn wsX1_looks (va_wsS RX1 43 yX1_spread wsX1_spread) := goodIn_app (goodIn_of _ (by decide +kernel)) ggX1_looks_X1_spread
theorem dX1_looks_0 : decode cX1_looks 0 = .ok (.aload_n 0, 1) := by decide +kernel
theorem dX1_looks_1 : decode cX1_looks 1 = .ok (.iconst 0, 1) := by decide +kernel
theorem dX1_looks_2 : decode cX1_looks 2 = .ok (.putfield 47, 3) := by decide +kernel
theorem dX1_looks_5 : decode cX1_looks 5 = .ok (.iconst 0, 1) := by decide +kernel
theorem dX1_looks_6 : decode cX1_looks 6 = .ok (.istore_n 1, 1) := by decide +kernel
theorem dX1_looks_7 : decode cX1_looks 7 = .ok (.iload_n 1, 1) := by decide +kernel
theorem dX1_looks_8 : decode cX1_looks 8 = .ok (.bipush 10, 2) := by decide +kernel
theorem dX1_looks_10 : decode cX1_looks 10 = .ok (.if_icmp .ge 83, 3) := by decide +kernel
theorem dX1_looks_13 : decode cX1_looks 13 = .ok (.aload_n 0, 1) := by decide +kernel
theorem dX1_looks_14 : decode cX1_looks 14 = .ok (.getfield 16, 3) := by decide +kernel
theorem dX1_looks_17 : decode cX1_looks 17 = .ok (.iload_n 1, 1) := by decide +kernel
theorem dX1_looks_18 : decode cX1_looks 18 = .ok (.lconst 0, 1) := by decide +kernel
theorem dX1_looks_19 : decode cX1_looks 19 = .ok (.lastore, 1) := by decide +kernel
theorem dX1_looks_20 : decode cX1_looks 20 = .ok (.iconst 0, 1) := by decide +kernel
theorem dX1_looks_21 : decode cX1_looks 21 = .ok (.istore_n 2, 1) := by decide +kernel
theorem dX1_looks_22 : decode cX1_looks 22 = .ok (.iload_n 2, 1) := by decide +kernel
theorem dX1_looks_23 : decode cX1_looks 23 = .ok (.bipush 36, 2) := by decide +kernel
theorem dX1_looks_25 : decode cX1_looks 25 = .ok (.if_icmp .ge 35, 3) := by decide +kernel
theorem dX1_looks_28 : decode cX1_looks 28 = .ok (.aload_n 0, 1) := by decide +kernel
theorem dX1_looks_29 : decode cX1_looks 29 = .ok (.getfield 16, 3) := by decide +kernel
theorem dX1_looks_32 : decode cX1_looks 32 = .ok (.iload_n 1, 1) := by decide +kernel
theorem dX1_looks_33 : decode cX1_looks 33 = .ok (.dup2, 1) := by decide +kernel
theorem dX1_looks_34 : decode cX1_looks 34 = .ok (.laload, 1) := by decide +kernel
theorem dX1_looks_35 : decode cX1_looks 35 = .ok (.aload_n 0, 1) := by decide +kernel
theorem dX1_looks_36 : decode cX1_looks 36 = .ok (.getfield 9, 3) := by decide +kernel
theorem dX1_looks_39 : decode cX1_looks 39 = .ok (.iload_n 2, 1) := by decide +kernel
theorem dX1_looks_40 : decode cX1_looks 40 = .ok (.iaload, 1) := by decide +kernel
theorem dX1_looks_41 : decode cX1_looks 41 = .ok (.iload_n 1, 1) := by decide +kernel
theorem dX1_looks_42 : decode cX1_looks 42 = .ok (.if_icmp .ne 9, 3) := by decide +kernel
theorem dX1_looks_45 : decode cX1_looks 45 = .ok (.lconst 1, 1) := by decide +kernel
theorem dX1_looks_46 : decode cX1_looks 46 = .ok (.iload_n 2, 1) := by decide +kernel
theorem dX1_looks_47 : decode cX1_looks 47 = .ok (.lshl, 1) := by decide +kernel
theorem dX1_looks_48 : decode cX1_looks 48 = .ok (.goto 4, 3) := by decide +kernel
theorem dX1_looks_51 : decode cX1_looks 51 = .ok (.lconst 0, 1) := by decide +kernel
theorem dX1_looks_52 : decode cX1_looks 52 = .ok (.lor, 1) := by decide +kernel
theorem dX1_looks_53 : decode cX1_looks 53 = .ok (.lastore, 1) := by decide +kernel
theorem dX1_looks_54 : decode cX1_looks 54 = .ok (.iinc 2 1, 3) := by decide +kernel
theorem dX1_looks_57 : decode cX1_looks 57 = .ok (.goto (-35), 3) := by decide +kernel
theorem dX1_looks_60 : decode cX1_looks 60 = .ok (.aload_n 0, 1) := by decide +kernel
theorem dX1_looks_61 : decode cX1_looks 61 = .ok (.dup, 1) := by decide +kernel
theorem dX1_looks_62 : decode cX1_looks 62 = .ok (.getfield 47, 3) := by decide +kernel
theorem dX1_looks_65 : decode cX1_looks 65 = .ok (.aload_n 0, 1) := by decide +kernel
theorem dX1_looks_66 : decode cX1_looks 66 = .ok (.getfield 16, 3) := by decide +kernel
theorem dX1_looks_69 : decode cX1_looks 69 = .ok (.iload_n 1, 1) := by decide +kernel
theorem dX1_looks_70 : decode cX1_looks 70 = .ok (.laload, 1) := by decide +kernel
theorem dX1_looks_71 : decode cX1_looks 71 = .ok (.lconst 0, 1) := by decide +kernel
theorem dX1_looks_72 : decode cX1_looks 72 = .ok (.lcmp, 1) := by decide +kernel
theorem dX1_looks_73 : decode cX1_looks 73 = .ok (.ifCond .ne 7, 3) := by decide +kernel
theorem dX1_looks_76 : decode cX1_looks 76 = .ok (.iconst 0, 1) := by decide +kernel
theorem dX1_looks_77 : decode cX1_looks 77 = .ok (.goto 6, 3) := by decide +kernel
theorem dX1_looks_80 : decode cX1_looks 80 = .ok (.iconst 1, 1) := by decide +kernel
theorem dX1_looks_81 : decode cX1_looks 81 = .ok (.iload_n 1, 1) := by decide +kernel
theorem dX1_looks_82 : decode cX1_looks 82 = .ok (.ishl, 1) := by decide +kernel
theorem dX1_looks_83 : decode cX1_looks 83 = .ok (.ior, 1) := by decide +kernel
theorem dX1_looks_84 : decode cX1_looks 84 = .ok (.putfield 47, 3) := by decide +kernel
theorem dX1_looks_87 : decode cX1_looks 87 = .ok (.iinc 1 1, 3) := by decide +kernel
theorem dX1_looks_90 : decode cX1_looks 90 = .ok (.goto (-83), 3) := by decide +kernel
theorem dX1_looks_93 : decode cX1_looks 93 = .ok (.iconst 0, 1) := by decide +kernel
theorem dX1_looks_94 : decode cX1_looks 94 = .ok (.istore_n 1, 1) := by decide +kernel
theorem dX1_looks_95 : decode cX1_looks 95 = .ok (.iload_n 1, 1) := by decide +kernel
theorem dX1_looks_96 : decode cX1_looks 96 = .ok (.bipush 10, 2) := by decide +kernel
theorem dX1_looks_98 : decode cX1_looks 98 = .ok (.if_icmp .ge 72, 3) := by decide +kernel
theorem dX1_looks_101 : decode cX1_looks 101 = .ok (.aload_n 0, 1) := by decide +kernel
theorem dX1_looks_102 : decode cX1_looks 102 = .ok (.getfield 20, 3) := by decide +kernel
theorem dX1_looks_105 : decode cX1_looks 105 = .ok (.iload_n 1, 1) := by decide +kernel
theorem dX1_looks_106 : decode cX1_looks 106 = .ok (.iconst 0, 1) := by decide +kernel
theorem dX1_looks_107 : decode cX1_looks 107 = .ok (.iastore, 1) := by decide +kernel
theorem dX1_looks_108 : decode cX1_looks 108 = .ok (.iconst 0, 1) := by decide +kernel
theorem dX1_looks_109 : decode cX1_looks 109 = .ok (.istore_n 2, 1) := by decide +kernel
theorem dX1_looks_110 : decode cX1_looks 110 = .ok (.iload_n 2, 1) := by decide +kernel
theorem dX1_looks_111 : decode cX1_looks 111 = .ok (.bipush 10, 2) := by decide +kernel
theorem dX1_looks_113 : decode cX1_looks 113 = .ok (.if_icmp .ge 51, 3) := by decide +kernel
theorem dX1_looks_116 : decode cX1_looks 116 = .ok (.aload_n 0, 1) := by decide +kernel
theorem dX1_looks_117 : decode cX1_looks 117 = .ok (.getfield 20, 3) := by decide +kernel
theorem dX1_looks_120 : decode cX1_looks 120 = .ok (.iload_n 1, 1) := by decide +kernel
theorem dX1_looks_121 : decode cX1_looks 121 = .ok (.dup2, 1) := by decide +kernel
theorem dX1_looks_122 : decode cX1_looks 122 = .ok (.iaload, 1) := by decide +kernel
theorem dX1_looks_123 : decode cX1_looks 123 = .ok (.iload_n 2, 1) := by decide +kernel
theorem dX1_looks_124 : decode cX1_looks 124 = .ok (.iload_n 1, 1) := by decide +kernel
theorem dX1_looks_125 : decode cX1_looks 125 = .ok (.if_icmp .eq 30, 3) := by decide +kernel
theorem dX1_looks_128 : decode cX1_looks 128 = .ok (.aload_n 0, 1) := by decide +kernel
theorem dX1_looks_129 : decode cX1_looks 129 = .ok (.getfield 16, 3) := by decide +kernel
theorem dX1_looks_132 : decode cX1_looks 132 = .ok (.iload_n 1, 1) := by decide +kernel
theorem dX1_looks_133 : decode cX1_looks 133 = .ok (.laload, 1) := by decide +kernel
theorem dX1_looks_134 : decode cX1_looks 134 = .ok (.invokestatic 43, 3) := by decide +kernel
theorem dX1_looks_137 : decode cX1_looks 137 = .ok (.aload_n 0, 1) := by decide +kernel
theorem dX1_looks_138 : decode cX1_looks 138 = .ok (.getfield 16, 3) := by decide +kernel
theorem dX1_looks_141 : decode cX1_looks 141 = .ok (.iload_n 2, 1) := by decide +kernel
theorem dX1_looks_142 : decode cX1_looks 142 = .ok (.laload, 1) := by decide +kernel
theorem dX1_looks_143 : decode cX1_looks 143 = .ok (.land, 1) := by decide +kernel
theorem dX1_looks_144 : decode cX1_looks 144 = .ok (.lconst 0, 1) := by decide +kernel
theorem dX1_looks_145 : decode cX1_looks 145 = .ok (.lcmp, 1) := by decide +kernel
theorem dX1_looks_146 : decode cX1_looks 146 = .ok (.ifCond .eq 9, 3) := by decide +kernel
theorem dX1_looks_149 : decode cX1_looks 149 = .ok (.iconst 1, 1) := by decide +kernel
theorem dX1_looks_150 : decode cX1_looks 150 = .ok (.iload_n 2, 1) := by decide +kernel
theorem dX1_looks_151 : decode cX1_looks 151 = .ok (.ishl, 1) := by decide +kernel
theorem dX1_looks_152 : decode cX1_looks 152 = .ok (.goto 4, 3) := by decide +kernel
theorem dX1_looks_155 : decode cX1_looks 155 = .ok (.iconst 0, 1) := by decide +kernel
theorem dX1_looks_156 : decode cX1_looks 156 = .ok (.ior, 1) := by decide +kernel
theorem dX1_looks_157 : decode cX1_looks 157 = .ok (.iastore, 1) := by decide +kernel
theorem dX1_looks_158 : decode cX1_looks 158 = .ok (.iinc 2 1, 3) := by decide +kernel
theorem dX1_looks_161 : decode cX1_looks 161 = .ok (.goto (-51), 3) := by decide +kernel
theorem dX1_looks_164 : decode cX1_looks 164 = .ok (.iinc 1 1, 3) := by decide +kernel
theorem dX1_looks_167 : decode cX1_looks 167 = .ok (.goto (-72), 3) := by decide +kernel
theorem dX1_looks_170 : decode cX1_looks 170 = .ok (.return_, 1) := by decide +kernel
theorem dX1_isThere_0 : decode cX1_isThere 0 = .ok (.aload_n 0, 1) := by decide +kernel
theorem dX1_isThere_1 : decode cX1_isThere 1 = .ok (.getfield 47, 3) := by decide +kernel
theorem dX1_isThere_4 : decode cX1_isThere 4 = .ok (.iload_n 1, 1) := by decide +kernel
theorem dX1_isThere_5 : decode cX1_isThere 5 = .ok (.ishr, 1) := by decide +kernel
theorem dX1_isThere_6 : decode cX1_isThere 6 = .ok (.iconst 1, 1) := by decide +kernel
theorem dX1_isThere_7 : decode cX1_isThere 7 = .ok (.iand, 1) := by decide +kernel
theorem dX1_isThere_8 : decode cX1_isThere 8 = .ok (.iconst 1, 1) := by decide +kernel
theorem dX1_isThere_9 : decode cX1_isThere 9 = .ok (.if_icmp .ne 7, 3) := by decide +kernel
theorem dX1_isThere_12 : decode cX1_isThere 12 = .ok (.iconst 1, 1) := by decide +kernel
theorem dX1_isThere_13 : decode cX1_isThere 13 = .ok (.goto 4, 3) := by decide +kernel
theorem dX1_isThere_16 : decode cX1_isThere 16 = .ok (.iconst 0, 1) := by decide +kernel
theorem dX1_isThere_17 : decode cX1_isThere 17 = .ok (.ireturn, 1) := by decide +kernel
theorem dX1_paints_0 : decode cX1_paints 0 = .ok (.aload_n 0, 1) := by decide +kernel
theorem dX1_paints_1 : decode cX1_paints 1 = .ok (.getfield 9, 3) := by decide +kernel
theorem dX1_paints_4 : decode cX1_paints 4 = .ok (.iload_n 1, 1) := by decide +kernel
theorem dX1_paints_5 : decode cX1_paints 5 = .ok (.iaload, 1) := by decide +kernel
theorem dX1_paints_6 : decode cX1_paints 6 = .ok (.istore_n 3, 1) := by decide +kernel
theorem dX1_paints_7 : decode cX1_paints 7 = .ok (.aload_n 0, 1) := by decide +kernel
theorem dX1_paints_8 : decode cX1_paints 8 = .ok (.getfield 9, 3) := by decide +kernel
theorem dX1_paints_11 : decode cX1_paints 11 = .ok (.iload_n 1, 1) := by decide +kernel
theorem dX1_paints_12 : decode cX1_paints 12 = .ok (.iload_n 2, 1) := by decide +kernel
theorem dX1_paints_13 : decode cX1_paints 13 = .ok (.iastore, 1) := by decide +kernel
theorem dX1_paints_14 : decode cX1_paints 14 = .ok (.iload_n 3, 1) := by decide +kernel
theorem dX1_paints_15 : decode cX1_paints 15 = .ok (.iload_n 2, 1) := by decide +kernel
theorem dX1_paints_16 : decode cX1_paints 16 = .ok (.if_icmp .ne 7, 3) := by decide +kernel
theorem dX1_paints_19 : decode cX1_paints 19 = .ok (.iconst 0, 1) := by decide +kernel
theorem dX1_paints_20 : decode cX1_paints 20 = .ok (.goto 4, 3) := by decide +kernel
theorem dX1_paints_23 : decode cX1_paints 23 = .ok (.iconst 1, 1) := by decide +kernel
theorem dX1_paints_24 : decode cX1_paints 24 = .ok (.ireturn, 1) := by decide +kernel
set_option maxRecDepth 20000 in
theorem ggX1_paint_X1_isCell : GoodIn wsX1_paint wsX1_isCell := goodIn_r _ [5, 6, 7, 4, 8] (by decide +kernel) (by decide +kernel)
set_option maxRecDepth 20000 in
theorem gX1_paint_X1_isCell : GoodIn wsX1_paint (va_wsS RX1 50 yX1_isCell wsX1_isCell) := goodIn_app (goodIn_of _ (by decide +kernel)) ggX1_paint_X1_isCell
set_option maxRecDepth 20000 in
theorem ggX1_paint_X1_isCountry : GoodIn wsX1_paint wsX1_isCountry := goodIn_r _ [11, 6, 7, 4, 8] (by decide +kernel) (by decide +kernel)
set_option maxRecDepth 20000 in
theorem gX1_paint_X1_isCountry : GoodIn wsX1_paint (va_wsS RX1 54 yX1_isCountry wsX1_isCountry) := goodIn_app (goodIn_of _ (by decide +kernel)) ggX1_paint_X1_isCountry
set_option maxRecDepth 20000 in
theorem ggX1_paint_X1_goes : GoodIn wsX1_paint wsX1_goes := goodIn_r _ [15, 16, 21, 22, 23, 24, 25, 26, 27, 28] (by decide +kernel) (by decide +kernel)
set_option maxRecDepth 20000 in
theorem gX1_paint_X1_goes : GoodIn wsX1_paint (wsV RX1 58 RX1 yX1_goes wsX1_goes) := goodIn_app (goodIn_of _ (by decide +kernel)) ggX1_paint_X1_goes
set_option maxRecDepth 20000 in
theorem ggX1_paint_X1_paints : GoodIn wsX1_paint wsX1_paints := goodIn_r _ [20, 1, 21, 22, 23, 24, 25, 26, 27, 28] (by decide +kernel) (by decide +kernel)
set_option maxRecDepth 20000 in
theorem gX1_paint_X1_paints : GoodIn wsX1_paint (wsV RX1 62 RX1 yX1_paints wsX1_paints) := goodIn_app (goodIn_of _ (by decide +kernel)) ggX1_paint_X1_paints
theorem dX1_paint_0 : decode cX1_paint 0 = .ok (.aload_n 0, 1) := by decide +kernel
theorem dX1_paint_1 : decode cX1_paint 1 = .ok (.iload_n 1, 1) := by decide +kernel
theorem dX1_paint_2 : decode cX1_paint 2 = .ok (.iload_n 2, 1) := by decide +kernel
theorem dX1_paint_3 : decode cX1_paint 3 = .ok (.invokestatic 50, 3) := by decide +kernel
theorem dX1_paint_6 : decode cX1_paint 6 = .ok (.iload_n 3, 1) := by decide +kernel
theorem dX1_paint_7 : decode cX1_paint 7 = .ok (.iconst (-1), 1) := by decide +kernel
theorem dX1_paint_8 : decode cX1_paint 8 = .ok (.if_icmp .eq 10, 3) := by decide +kernel
theorem dX1_paint_11 : decode cX1_paint 11 = .ok (.iload_n 3, 1) := by decide +kernel
theorem dX1_paint_12 : decode cX1_paint 12 = .ok (.invokestatic 54, 3) := by decide +kernel
theorem dX1_paint_15 : decode cX1_paint 15 = .ok (.ifCond .eq 7, 3) := by decide +kernel
theorem dX1_paint_18 : decode cX1_paint 18 = .ok (.iconst 1, 1) := by decide +kernel
theorem dX1_paint_19 : decode cX1_paint 19 = .ok (.goto 4, 3) := by decide +kernel
theorem dX1_paint_22 : decode cX1_paint 22 = .ok (.iconst 0, 1) := by decide +kernel
theorem dX1_paint_23 : decode cX1_paint 23 = .ok (.iconst 1, 1) := by decide +kernel
theorem dX1_paint_24 : decode cX1_paint 24 = .ok (.invokevirtual 58, 3) := by decide +kernel
theorem dX1_paint_27 : decode cX1_paint 27 = .ok (.ifCond .ne 5, 3) := by decide +kernel
theorem dX1_paint_30 : decode cX1_paint 30 = .ok (.iconst 0, 1) := by decide +kernel
theorem dX1_paint_31 : decode cX1_paint 31 = .ok (.ireturn, 1) := by decide +kernel
theorem dX1_paint_32 : decode cX1_paint 32 = .ok (.aload_n 0, 1) := by decide +kernel
theorem dX1_paint_33 : decode cX1_paint 33 = .ok (.getfield 9, 3) := by decide +kernel
theorem dX1_paint_36 : decode cX1_paint 36 = .ok (.bipush 6, 2) := by decide +kernel
theorem dX1_paint_38 : decode cX1_paint 38 = .ok (.iload_n 1, 1) := by decide +kernel
theorem dX1_paint_39 : decode cX1_paint 39 = .ok (.imul, 1) := by decide +kernel
theorem dX1_paint_40 : decode cX1_paint 40 = .ok (.iload_n 2, 1) := by decide +kernel
theorem dX1_paint_41 : decode cX1_paint 41 = .ok (.iadd, 1) := by decide +kernel
theorem dX1_paint_42 : decode cX1_paint 42 = .ok (.iaload, 1) := by decide +kernel
theorem dX1_paint_43 : decode cX1_paint 43 = .ok (.istore 4, 2) := by decide +kernel
theorem dX1_paint_45 : decode cX1_paint 45 = .ok (.aload_n 0, 1) := by decide +kernel
theorem dX1_paint_46 : decode cX1_paint 46 = .ok (.bipush 6, 2) := by decide +kernel
theorem dX1_paint_48 : decode cX1_paint 48 = .ok (.iload_n 1, 1) := by decide +kernel
theorem dX1_paint_49 : decode cX1_paint 49 = .ok (.imul, 1) := by decide +kernel
theorem dX1_paint_50 : decode cX1_paint 50 = .ok (.iload_n 2, 1) := by decide +kernel
theorem dX1_paint_51 : decode cX1_paint 51 = .ok (.iadd, 1) := by decide +kernel
theorem dX1_paint_52 : decode cX1_paint 52 = .ok (.iload_n 3, 1) := by decide +kernel
theorem dX1_paint_53 : decode cX1_paint 53 = .ok (.invokevirtual 62, 3) := by decide +kernel
theorem dX1_paint_56 : decode cX1_paint 56 = .ok (.istore 5, 2) := by decide +kernel
theorem dX1_paint_58 : decode cX1_paint 58 = .ok (.iload 4, 2) := by decide +kernel
theorem dX1_paint_60 : decode cX1_paint 60 = .ok (.ireturn, 1) := by decide +kernel
set_option maxRecDepth 20000 in
theorem ggX1_paintBlock_X1_isCell : GoodIn wsX1_paintBlock wsX1_isCell := goodIn_r _ [4, 5, 6, 3, 7] (by decide +kernel) (by decide +kernel)
set_option maxRecDepth 20000 in
theorem gX1_paintBlock_X1_isCell : GoodIn wsX1_paintBlock (va_wsS RX1 50 yX1_isCell wsX1_isCell) := goodIn_app (goodIn_of _ (by decide +kernel)) ggX1_paintBlock_X1_isCell
set_option maxRecDepth 20000 in
theorem ggX1_paintBlock_X1_isCountry : GoodIn wsX1_paintBlock wsX1_isCountry := goodIn_r _ [10, 5, 6, 3, 7] (by decide +kernel) (by decide +kernel)
set_option maxRecDepth 20000 in
theorem gX1_paintBlock_X1_isCountry : GoodIn wsX1_paintBlock (va_wsS RX1 54 yX1_isCountry wsX1_isCountry) := goodIn_app (goodIn_of _ (by decide +kernel)) ggX1_paintBlock_X1_isCountry
set_option maxRecDepth 20000 in
theorem ggX1_paintBlock_X1_goes : GoodIn wsX1_paintBlock wsX1_goes := goodIn_r _ [14, 15, 21, 22, 23, 24, 25, 26, 27, 28] (by decide +kernel) (by decide +kernel)
set_option maxRecDepth 20000 in
theorem gX1_paintBlock_X1_goes : GoodIn wsX1_paintBlock (wsV RX1 58 RX1 yX1_goes wsX1_goes) := goodIn_app (goodIn_of _ (by decide +kernel)) ggX1_paintBlock_X1_goes
set_option maxRecDepth 20000 in
theorem ggX1_paintBlock_X1_in : GoodIn wsX1_paintBlock wsX1_in := goodIn_r _ [7] (by decide +kernel) (by decide +kernel)
set_option maxRecDepth 20000 in
theorem gX1_paintBlock_X1_in : GoodIn wsX1_paintBlock (va_wsS RX1 33 yX1_in wsX1_in) := goodIn_app (goodIn_of _ (by decide +kernel)) ggX1_paintBlock_X1_in
set_option maxRecDepth 20000 in
theorem ggX1_paintBlock_X1_paints : GoodIn wsX1_paintBlock wsX1_paints := goodIn_r _ [19, 20, 21, 22, 23, 24, 25, 26, 27, 28] (by decide +kernel) (by decide +kernel)
set_option maxRecDepth 20000 in
theorem gX1_paintBlock_X1_paints : GoodIn wsX1_paintBlock (wsV RX1 62 RX1 yX1_paints wsX1_paints) := goodIn_app (goodIn_of _ (by decide +kernel)) ggX1_paintBlock_X1_paints
theorem dX1_paintBlock_0 : decode cX1_paintBlock 0 = .ok (.iload_n 1, 1) := by decide +kernel
theorem dX1_paintBlock_1 : decode cX1_paintBlock 1 = .ok (.iload_n 2, 1) := by decide +kernel
theorem dX1_paintBlock_2 : decode cX1_paintBlock 2 = .ok (.invokestatic 50, 3) := by decide +kernel
theorem dX1_paintBlock_5 : decode cX1_paintBlock 5 = .ok (.ifCond .eq 16, 3) := by decide +kernel
theorem dX1_paintBlock_8 : decode cX1_paintBlock 8 = .ok (.iload_n 3, 1) := by decide +kernel
theorem dX1_paintBlock_9 : decode cX1_paintBlock 9 = .ok (.iload 4, 2) := by decide +kernel
theorem dX1_paintBlock_11 : decode cX1_paintBlock 11 = .ok (.invokestatic 50, 3) := by decide +kernel
theorem dX1_paintBlock_14 : decode cX1_paintBlock 14 = .ok (.ifCond .eq 7, 3) := by decide +kernel
theorem dX1_paintBlock_17 : decode cX1_paintBlock 17 = .ok (.iconst 1, 1) := by decide +kernel
theorem dX1_paintBlock_18 : decode cX1_paintBlock 18 = .ok (.goto 4, 3) := by decide +kernel
theorem dX1_paintBlock_21 : decode cX1_paintBlock 21 = .ok (.iconst 0, 1) := by decide +kernel
theorem dX1_paintBlock_22 : decode cX1_paintBlock 22 = .ok (.istore 6, 2) := by decide +kernel
theorem dX1_paintBlock_24 : decode cX1_paintBlock 24 = .ok (.aload_n 0, 1) := by decide +kernel
theorem dX1_paintBlock_25 : decode cX1_paintBlock 25 = .ok (.iload 6, 2) := by decide +kernel
theorem dX1_paintBlock_27 : decode cX1_paintBlock 27 = .ok (.iload 5, 2) := by decide +kernel
theorem dX1_paintBlock_29 : decode cX1_paintBlock 29 = .ok (.iconst (-1), 1) := by decide +kernel
theorem dX1_paintBlock_30 : decode cX1_paintBlock 30 = .ok (.if_icmp .eq 11, 3) := by decide +kernel
theorem dX1_paintBlock_33 : decode cX1_paintBlock 33 = .ok (.iload 5, 2) := by decide +kernel
theorem dX1_paintBlock_35 : decode cX1_paintBlock 35 = .ok (.invokestatic 54, 3) := by decide +kernel
theorem dX1_paintBlock_38 : decode cX1_paintBlock 38 = .ok (.ifCond .eq 18, 3) := by decide +kernel
theorem dX1_paintBlock_41 : decode cX1_paintBlock 41 = .ok (.iload_n 3, 1) := by decide +kernel
theorem dX1_paintBlock_42 : decode cX1_paintBlock 42 = .ok (.iload_n 1, 1) := by decide +kernel
theorem dX1_paintBlock_43 : decode cX1_paintBlock 43 = .ok (.if_icmp .lt 13, 3) := by decide +kernel
theorem dX1_paintBlock_46 : decode cX1_paintBlock 46 = .ok (.iload 4, 2) := by decide +kernel
theorem dX1_paintBlock_48 : decode cX1_paintBlock 48 = .ok (.iload_n 2, 1) := by decide +kernel
theorem dX1_paintBlock_49 : decode cX1_paintBlock 49 = .ok (.if_icmp .lt 7, 3) := by decide +kernel
theorem dX1_paintBlock_52 : decode cX1_paintBlock 52 = .ok (.iconst 1, 1) := by decide +kernel
theorem dX1_paintBlock_53 : decode cX1_paintBlock 53 = .ok (.goto 4, 3) := by decide +kernel
theorem dX1_paintBlock_56 : decode cX1_paintBlock 56 = .ok (.iconst 0, 1) := by decide +kernel
theorem dX1_paintBlock_57 : decode cX1_paintBlock 57 = .ok (.iconst 1, 1) := by decide +kernel
theorem dX1_paintBlock_58 : decode cX1_paintBlock 58 = .ok (.invokevirtual 58, 3) := by decide +kernel
theorem dX1_paintBlock_61 : decode cX1_paintBlock 61 = .ok (.ifCond .ne 5, 3) := by decide +kernel
theorem dX1_paintBlock_64 : decode cX1_paintBlock 64 = .ok (.iconst 0, 1) := by decide +kernel
theorem dX1_paintBlock_65 : decode cX1_paintBlock 65 = .ok (.ireturn, 1) := by decide +kernel
theorem dX1_paintBlock_66 : decode cX1_paintBlock 66 = .ok (.iconst 0, 1) := by decide +kernel
theorem dX1_paintBlock_67 : decode cX1_paintBlock 67 = .ok (.istore 7, 2) := by decide +kernel
theorem dX1_paintBlock_69 : decode cX1_paintBlock 69 = .ok (.iconst 0, 1) := by decide +kernel
theorem dX1_paintBlock_70 : decode cX1_paintBlock 70 = .ok (.istore 8, 2) := by decide +kernel
theorem dX1_paintBlock_72 : decode cX1_paintBlock 72 = .ok (.iload 8, 2) := by decide +kernel
theorem dX1_paintBlock_74 : decode cX1_paintBlock 74 = .ok (.bipush 36, 2) := by decide +kernel
theorem dX1_paintBlock_76 : decode cX1_paintBlock 76 = .ok (.if_icmp .ge 53, 3) := by decide +kernel
theorem dX1_paintBlock_79 : decode cX1_paintBlock 79 = .ok (.iload 7, 2) := by decide +kernel
theorem dX1_paintBlock_81 : decode cX1_paintBlock 81 = .ok (.iload 8, 2) := by decide +kernel
theorem dX1_paintBlock_83 : decode cX1_paintBlock 83 = .ok (.bipush 6, 2) := by decide +kernel
theorem dX1_paintBlock_85 : decode cX1_paintBlock 85 = .ok (.idiv, 1) := by decide +kernel
theorem dX1_paintBlock_86 : decode cX1_paintBlock 86 = .ok (.iload_n 1, 1) := by decide +kernel
theorem dX1_paintBlock_87 : decode cX1_paintBlock 87 = .ok (.iload_n 3, 1) := by decide +kernel
theorem dX1_paintBlock_88 : decode cX1_paintBlock 88 = .ok (.invokestatic 33, 3) := by decide +kernel
theorem dX1_paintBlock_91 : decode cX1_paintBlock 91 = .ok (.ifCond .eq 28, 3) := by decide +kernel
theorem dX1_paintBlock_94 : decode cX1_paintBlock 94 = .ok (.iload 8, 2) := by decide +kernel
theorem dX1_paintBlock_96 : decode cX1_paintBlock 96 = .ok (.bipush 6, 2) := by decide +kernel
theorem dX1_paintBlock_98 : decode cX1_paintBlock 98 = .ok (.irem, 1) := by decide +kernel
theorem dX1_paintBlock_99 : decode cX1_paintBlock 99 = .ok (.iload_n 2, 1) := by decide +kernel
theorem dX1_paintBlock_100 : decode cX1_paintBlock 100 = .ok (.iload 4, 2) := by decide +kernel
theorem dX1_paintBlock_102 : decode cX1_paintBlock 102 = .ok (.invokestatic 33, 3) := by decide +kernel
theorem dX1_paintBlock_105 : decode cX1_paintBlock 105 = .ok (.ifCond .eq 14, 3) := by decide +kernel
theorem dX1_paintBlock_108 : decode cX1_paintBlock 108 = .ok (.aload_n 0, 1) := by decide +kernel
theorem dX1_paintBlock_109 : decode cX1_paintBlock 109 = .ok (.iload 8, 2) := by decide +kernel
theorem dX1_paintBlock_111 : decode cX1_paintBlock 111 = .ok (.iload 5, 2) := by decide +kernel
theorem dX1_paintBlock_113 : decode cX1_paintBlock 113 = .ok (.invokevirtual 62, 3) := by decide +kernel
theorem dX1_paintBlock_116 : decode cX1_paintBlock 116 = .ok (.goto 4, 3) := by decide +kernel
theorem dX1_paintBlock_119 : decode cX1_paintBlock 119 = .ok (.iconst 0, 1) := by decide +kernel
theorem dX1_paintBlock_120 : decode cX1_paintBlock 120 = .ok (.iadd, 1) := by decide +kernel
theorem dX1_paintBlock_121 : decode cX1_paintBlock 121 = .ok (.istore 7, 2) := by decide +kernel
theorem dX1_paintBlock_123 : decode cX1_paintBlock 123 = .ok (.iinc 8 1, 3) := by decide +kernel
theorem dX1_paintBlock_126 : decode cX1_paintBlock 126 = .ok (.goto (-54), 3) := by decide +kernel
theorem dX1_paintBlock_129 : decode cX1_paintBlock 129 = .ok (.iload 7, 2) := by decide +kernel
theorem dX1_paintBlock_131 : decode cX1_paintBlock 131 = .ok (.ireturn, 1) := by decide +kernel
set_option maxRecDepth 20000 in
theorem ggX1_countryAt_X1_isCell : GoodIn wsX1_countryAt wsX1_isCell := goodIn_r _ [5, 6, 7, 4, 8] (by decide +kernel) (by decide +kernel)
set_option maxRecDepth 20000 in
theorem gX1_countryAt_X1_isCell : GoodIn wsX1_countryAt (va_wsS RX1 50 yX1_isCell wsX1_isCell) := goodIn_app (goodIn_of _ (by decide +kernel)) ggX1_countryAt_X1_isCell
set_option maxRecDepth 20000 in
theorem ggX1_countryAt_X1_goes : GoodIn wsX1_countryAt wsX1_goes := goodIn_r _ [12, 13, 14, 15, 16, 17, 18, 19, 20, 21] (by decide +kernel) (by decide +kernel)
set_option maxRecDepth 20000 in
theorem gX1_countryAt_X1_goes : GoodIn wsX1_countryAt (wsV RX1 58 RX1 yX1_goes wsX1_goes) := goodIn_app (goodIn_of _ (by decide +kernel)) ggX1_countryAt_X1_goes
theorem dX1_countryAt_0 : decode cX1_countryAt 0 = .ok (.aload_n 0, 1) := by decide +kernel
theorem dX1_countryAt_1 : decode cX1_countryAt 1 = .ok (.iload_n 1, 1) := by decide +kernel
theorem dX1_countryAt_2 : decode cX1_countryAt 2 = .ok (.iload_n 2, 1) := by decide +kernel
theorem dX1_countryAt_3 : decode cX1_countryAt 3 = .ok (.invokestatic 50, 3) := by decide +kernel
theorem dX1_countryAt_6 : decode cX1_countryAt 6 = .ok (.iconst 1, 1) := by decide +kernel
theorem dX1_countryAt_7 : decode cX1_countryAt 7 = .ok (.iconst 1, 1) := by decide +kernel
theorem dX1_countryAt_8 : decode cX1_countryAt 8 = .ok (.invokevirtual 58, 3) := by decide +kernel
theorem dX1_countryAt_11 : decode cX1_countryAt 11 = .ok (.ifCond .eq 17, 3) := by decide +kernel
theorem dX1_countryAt_14 : decode cX1_countryAt 14 = .ok (.aload_n 0, 1) := by decide +kernel
theorem dX1_countryAt_15 : decode cX1_countryAt 15 = .ok (.getfield 9, 3) := by decide +kernel
theorem dX1_countryAt_18 : decode cX1_countryAt 18 = .ok (.bipush 6, 2) := by decide +kernel
theorem dX1_countryAt_20 : decode cX1_countryAt 20 = .ok (.iload_n 1, 1) := by decide +kernel
theorem dX1_countryAt_21 : decode cX1_countryAt 21 = .ok (.imul, 1) := by decide +kernel
theorem dX1_countryAt_22 : decode cX1_countryAt 22 = .ok (.iload_n 2, 1) := by decide +kernel
theorem dX1_countryAt_23 : decode cX1_countryAt 23 = .ok (.iadd, 1) := by decide +kernel
theorem dX1_countryAt_24 : decode cX1_countryAt 24 = .ok (.iaload, 1) := by decide +kernel
theorem dX1_countryAt_25 : decode cX1_countryAt 25 = .ok (.goto 4, 3) := by decide +kernel
theorem dX1_countryAt_28 : decode cX1_countryAt 28 = .ok (.iconst 0, 1) := by decide +kernel
theorem dX1_countryAt_29 : decode cX1_countryAt 29 = .ok (.ireturn, 1) := by decide +kernel
set_option maxRecDepth 20000 in
theorem ggX1_countries_X1_looks : GoodIn wsX1_countries wsX1_looks := goodIn_r _ [6, 1, 7, 8, 9, 10, 11, 5, 12, 13, 14, 15, 24, 25, 26, 27, 28, 29, 30, 31] (by decide +kernel) (by decide +kernel)
set_option maxRecDepth 20000 in
theorem gX1_countries_X1_looks : GoodIn wsX1_countries (wsV RX1 66 RX1 yX1_looks wsX1_looks) := goodIn_app (goodIn_of _ (by decide +kernel)) ggX1_countries_X1_looks
set_option maxRecDepth 20000 in
theorem ggX1_countries_X1_bits : GoodIn wsX1_countries wsX1_bits := goodIn_r _ [18] (by decide +kernel) (by decide +kernel)
set_option maxRecDepth 20000 in
theorem gX1_countries_X1_bits : GoodIn wsX1_countries (va_wsS RX1 69 yX1_bits wsX1_bits) := goodIn_app (goodIn_of _ (by decide +kernel)) ggX1_countries_X1_bits
set_option maxRecDepth 20000 in
theorem ggX1_countries_X1_told : GoodIn wsX1_countries wsX1_told := goodIn_r _ [22, 23, 24, 25, 26, 27, 28, 29, 30, 31] (by decide +kernel) (by decide +kernel)
set_option maxRecDepth 20000 in
theorem gX1_countries_X1_told : GoodIn wsX1_countries (wsV RX1 73 RX1 yX1_told wsX1_told) := goodIn_app (goodIn_of _ (by decide +kernel)) ggX1_countries_X1_told
theorem dX1_countries_0 : decode cX1_countries 0 = .ok (.aload_n 0, 1) := by decide +kernel
theorem dX1_countries_1 : decode cX1_countries 1 = .ok (.invokevirtual 66, 3) := by decide +kernel
theorem dX1_countries_4 : decode cX1_countries 4 = .ok (.aload_n 0, 1) := by decide +kernel
theorem dX1_countries_5 : decode cX1_countries 5 = .ok (.aload_n 0, 1) := by decide +kernel
theorem dX1_countries_6 : decode cX1_countries 6 = .ok (.getfield 47, 3) := by decide +kernel
theorem dX1_countries_9 : decode cX1_countries 9 = .ok (.i2l, 1) := by decide +kernel
theorem dX1_countries_10 : decode cX1_countries 10 = .ok (.invokestatic 69, 3) := by decide +kernel
theorem dX1_countries_13 : decode cX1_countries 13 = .ok (.invokevirtual 73, 3) := by decide +kernel
theorem dX1_countries_16 : decode cX1_countries 16 = .ok (.ireturn, 1) := by decide +kernel
set_option maxRecDepth 20000 in
theorem ggX1_area_X1_looks : GoodIn wsX1_area wsX1_looks := goodIn_r _ [6, 7, 1, 8, 9, 10, 11, 5, 12, 13, 14, 15, 30, 31, 32, 33, 34, 35, 36, 37] (by decide +kernel) (by decide +kernel)
set_option maxRecDepth 20000 in
theorem gX1_area_X1_looks : GoodIn wsX1_area (wsV RX1 66 RX1 yX1_looks wsX1_looks) := goodIn_app (goodIn_of _ (by decide +kernel)) ggX1_area_X1_looks
set_option maxRecDepth 20000 in
theorem ggX1_area_X1_isCountry : GoodIn wsX1_area wsX1_isCountry := goodIn_r _ [18, 19, 20, 5, 21] (by decide +kernel) (by decide +kernel)
set_option maxRecDepth 20000 in
theorem gX1_area_X1_isCountry : GoodIn wsX1_area (va_wsS RX1 54 yX1_isCountry wsX1_isCountry) := goodIn_app (goodIn_of _ (by decide +kernel)) ggX1_area_X1_isCountry
set_option maxRecDepth 20000 in
theorem ggX1_area_X1_goes : GoodIn wsX1_area wsX1_goes := goodIn_r _ [25, 26, 30, 31, 32, 33, 34, 35, 36, 37] (by decide +kernel) (by decide +kernel)
set_option maxRecDepth 20000 in
theorem gX1_area_X1_goes : GoodIn wsX1_area (wsV RX1 58 RX1 yX1_goes wsX1_goes) := goodIn_app (goodIn_of _ (by decide +kernel)) ggX1_area_X1_goes
set_option maxRecDepth 20000 in
theorem ggX1_area_X1_bits : GoodIn wsX1_area wsX1_bits := goodIn_r _ [29] (by decide +kernel) (by decide +kernel)
set_option maxRecDepth 20000 in
theorem gX1_area_X1_bits : GoodIn wsX1_area (va_wsS RX1 69 yX1_bits wsX1_bits) := goodIn_app (goodIn_of _ (by decide +kernel)) ggX1_area_X1_bits
theorem dX1_area_0 : decode cX1_area 0 = .ok (.aload_n 0, 1) := by decide +kernel
theorem dX1_area_1 : decode cX1_area 1 = .ok (.invokevirtual 66, 3) := by decide +kernel
theorem dX1_area_4 : decode cX1_area 4 = .ok (.aload_n 0, 1) := by decide +kernel
theorem dX1_area_5 : decode cX1_area 5 = .ok (.iload_n 1, 1) := by decide +kernel
theorem dX1_area_6 : decode cX1_area 6 = .ok (.invokestatic 54, 3) := by decide +kernel
theorem dX1_area_9 : decode cX1_area 9 = .ok (.iconst 1, 1) := by decide +kernel
theorem dX1_area_10 : decode cX1_area 10 = .ok (.iconst 1, 1) := by decide +kernel
theorem dX1_area_11 : decode cX1_area 11 = .ok (.invokevirtual 58, 3) := by decide +kernel
theorem dX1_area_14 : decode cX1_area 14 = .ok (.ifCond .eq 15, 3) := by decide +kernel
theorem dX1_area_17 : decode cX1_area 17 = .ok (.aload_n 0, 1) := by decide +kernel
theorem dX1_area_18 : decode cX1_area 18 = .ok (.getfield 16, 3) := by decide +kernel
theorem dX1_area_21 : decode cX1_area 21 = .ok (.iload_n 1, 1) := by decide +kernel
theorem dX1_area_22 : decode cX1_area 22 = .ok (.laload, 1) := by decide +kernel
theorem dX1_area_23 : decode cX1_area 23 = .ok (.invokestatic 69, 3) := by decide +kernel
theorem dX1_area_26 : decode cX1_area 26 = .ok (.goto 4, 3) := by decide +kernel
theorem dX1_area_29 : decode cX1_area 29 = .ok (.iconst 0, 1) := by decide +kernel
theorem dX1_area_30 : decode cX1_area 30 = .ok (.ireturn, 1) := by decide +kernel
set_option maxRecDepth 20000 in
theorem ggX1_piece_X1_reach : GoodIn wsX1_piece wsX1_reach := goodIn_r _ [4, 5, 6, 3, 7, 8, 9, 10] (by decide +kernel) (by decide +kernel)
set_option maxRecDepth 20000 in
theorem gX1_piece_X1_reach : GoodIn wsX1_piece (va_wsS RX1 77 yX1_reach wsX1_reach) := goodIn_app (goodIn_of _ (by decide +kernel)) ggX1_piece_X1_reach
theorem dX1_piece_0 : decode cX1_piece 0 = .ok (.lload_n 0, 1) := by decide +kernel
theorem dX1_piece_1 : decode cX1_piece 1 = .ok (.lload_n 0, 1) := by decide +kernel
theorem dX1_piece_2 : decode cX1_piece 2 = .ok (.lneg, 1) := by decide +kernel
theorem dX1_piece_3 : decode cX1_piece 3 = .ok (.land, 1) := by decide +kernel
theorem dX1_piece_4 : decode cX1_piece 4 = .ok (.lload_n 0, 1) := by decide +kernel
theorem dX1_piece_5 : decode cX1_piece 5 = .ok (.invokestatic 77, 3) := by decide +kernel
theorem dX1_piece_8 : decode cX1_piece 8 = .ok (.lreturn, 1) := by decide +kernel
set_option maxRecDepth 20000 in
theorem ggX1_piecesOf_X1_piece : GoodIn wsX1_piecesOf wsX1_piece := goodIn_r _ [6, 7, 8, 5, 9, 10, 11, 12, 13, 14, 15] (by decide +kernel) (by decide +kernel)
set_option maxRecDepth 20000 in
theorem gX1_piecesOf_X1_piece : GoodIn wsX1_piecesOf (va_wsS RX1 81 yX1_piece wsX1_piece) := goodIn_app (goodIn_of _ (by decide +kernel)) ggX1_piecesOf_X1_piece
theorem dX1_piecesOf_0 : decode cX1_piecesOf 0 = .ok (.iconst 0, 1) := by decide +kernel
theorem dX1_piecesOf_1 : decode cX1_piecesOf 1 = .ok (.istore_n 2, 1) := by decide +kernel
theorem dX1_piecesOf_2 : decode cX1_piecesOf 2 = .ok (.aload_n 0, 1) := by decide +kernel
theorem dX1_piecesOf_3 : decode cX1_piecesOf 3 = .ok (.getfield 16, 3) := by decide +kernel
theorem dX1_piecesOf_6 : decode cX1_piecesOf 6 = .ok (.iload_n 1, 1) := by decide +kernel
theorem dX1_piecesOf_7 : decode cX1_piecesOf 7 = .ok (.laload, 1) := by decide +kernel
theorem dX1_piecesOf_8 : decode cX1_piecesOf 8 = .ok (.lstore_n 3, 1) := by decide +kernel
theorem dX1_piecesOf_9 : decode cX1_piecesOf 9 = .ok (.lload_n 3, 1) := by decide +kernel
theorem dX1_piecesOf_10 : decode cX1_piecesOf 10 = .ok (.lconst 0, 1) := by decide +kernel
theorem dX1_piecesOf_11 : decode cX1_piecesOf 11 = .ok (.lcmp, 1) := by decide +kernel
theorem dX1_piecesOf_12 : decode cX1_piecesOf 12 = .ok (.ifCond .eq 20, 3) := by decide +kernel
theorem dX1_piecesOf_15 : decode cX1_piecesOf 15 = .ok (.lload_n 3, 1) := by decide +kernel
theorem dX1_piecesOf_16 : decode cX1_piecesOf 16 = .ok (.lload_n 3, 1) := by decide +kernel
theorem dX1_piecesOf_17 : decode cX1_piecesOf 17 = .ok (.invokestatic 81, 3) := by decide +kernel
theorem dX1_piecesOf_20 : decode cX1_piecesOf 20 = .ok (.ldc2_w 84, 3) := by decide +kernel
theorem dX1_piecesOf_23 : decode cX1_piecesOf 23 = .ok (.lxor, 1) := by decide +kernel
theorem dX1_piecesOf_24 : decode cX1_piecesOf 24 = .ok (.land, 1) := by decide +kernel
theorem dX1_piecesOf_25 : decode cX1_piecesOf 25 = .ok (.lstore_n 3, 1) := by decide +kernel
theorem dX1_piecesOf_26 : decode cX1_piecesOf 26 = .ok (.iinc 2 1, 3) := by decide +kernel
theorem dX1_piecesOf_29 : decode cX1_piecesOf 29 = .ok (.goto (-20), 3) := by decide +kernel
theorem dX1_piecesOf_32 : decode cX1_piecesOf 32 = .ok (.iload_n 2, 1) := by decide +kernel
theorem dX1_piecesOf_33 : decode cX1_piecesOf 33 = .ok (.ireturn, 1) := by decide +kernel
set_option maxRecDepth 20000 in
theorem ggX1_pieces_X1_looks : GoodIn wsX1_pieces wsX1_looks := goodIn_r _ [5, 6, 7, 8, 9, 10, 11, 4, 12, 13, 14, 15, 38, 39, 40, 41, 42, 43, 44, 45] (by decide +kernel) (by decide +kernel)
set_option maxRecDepth 20000 in
theorem gX1_pieces_X1_looks : GoodIn wsX1_pieces (wsV RX1 66 RX1 yX1_looks wsX1_looks) := goodIn_app (goodIn_of _ (by decide +kernel)) ggX1_pieces_X1_looks
set_option maxRecDepth 20000 in
theorem ggX1_pieces_X1_isCountry : GoodIn wsX1_pieces wsX1_isCountry := goodIn_r _ [18, 19, 20, 4, 21] (by decide +kernel) (by decide +kernel)
set_option maxRecDepth 20000 in
theorem gX1_pieces_X1_isCountry : GoodIn wsX1_pieces (va_wsS RX1 54 yX1_isCountry wsX1_isCountry) := goodIn_app (goodIn_of _ (by decide +kernel)) ggX1_pieces_X1_isCountry
set_option maxRecDepth 20000 in
theorem ggX1_pieces_X1_goes : GoodIn wsX1_pieces wsX1_goes := goodIn_r _ [25, 26, 38, 39, 40, 41, 42, 43, 44, 45] (by decide +kernel) (by decide +kernel)
set_option maxRecDepth 20000 in
theorem gX1_pieces_X1_goes : GoodIn wsX1_pieces (wsV RX1 58 RX1 yX1_goes wsX1_goes) := goodIn_app (goodIn_of _ (by decide +kernel)) ggX1_pieces_X1_goes
set_option maxRecDepth 20000 in
theorem ggX1_pieces_X1_piecesOf : GoodIn wsX1_pieces wsX1_piecesOf := goodIn_r _ [30, 7, 31, 32, 33, 4, 34, 35, 36, 37, 10, 11, 12, 13, 14, 15, 38, 39, 40, 41, 42, 43, 44, 45] (by decide +kernel) (by decide +kernel)
set_option maxRecDepth 20000 in
theorem gX1_pieces_X1_piecesOf : GoodIn wsX1_pieces (wsV RX1 86 RX1 yX1_piecesOf wsX1_piecesOf) := goodIn_app (goodIn_of _ (by decide +kernel)) ggX1_pieces_X1_piecesOf
theorem dX1_pieces_0 : decode cX1_pieces 0 = .ok (.aload_n 0, 1) := by decide +kernel
theorem dX1_pieces_1 : decode cX1_pieces 1 = .ok (.invokevirtual 66, 3) := by decide +kernel
theorem dX1_pieces_4 : decode cX1_pieces 4 = .ok (.aload_n 0, 1) := by decide +kernel
theorem dX1_pieces_5 : decode cX1_pieces 5 = .ok (.iload_n 1, 1) := by decide +kernel
theorem dX1_pieces_6 : decode cX1_pieces 6 = .ok (.invokestatic 54, 3) := by decide +kernel
theorem dX1_pieces_9 : decode cX1_pieces 9 = .ok (.iconst 1, 1) := by decide +kernel
theorem dX1_pieces_10 : decode cX1_pieces 10 = .ok (.iconst 1, 1) := by decide +kernel
theorem dX1_pieces_11 : decode cX1_pieces 11 = .ok (.invokevirtual 58, 3) := by decide +kernel
theorem dX1_pieces_14 : decode cX1_pieces 14 = .ok (.ifCond .eq 11, 3) := by decide +kernel
theorem dX1_pieces_17 : decode cX1_pieces 17 = .ok (.aload_n 0, 1) := by decide +kernel
theorem dX1_pieces_18 : decode cX1_pieces 18 = .ok (.iload_n 1, 1) := by decide +kernel
theorem dX1_pieces_19 : decode cX1_pieces 19 = .ok (.invokevirtual 86, 3) := by decide +kernel
theorem dX1_pieces_22 : decode cX1_pieces 22 = .ok (.goto 4, 3) := by decide +kernel
theorem dX1_pieces_25 : decode cX1_pieces 25 = .ok (.iconst 0, 1) := by decide +kernel
theorem dX1_pieces_26 : decode cX1_pieces 26 = .ok (.ireturn, 1) := by decide +kernel
set_option maxRecDepth 20000 in
theorem ggX1_largestPiece_X1_looks : GoodIn wsX1_largestPiece wsX1_looks := goodIn_r _ [7, 8, 1, 9, 10, 11, 12, 6, 13, 14, 15, 16, 37, 38, 39, 40, 41, 42, 43, 44] (by decide +kernel) (by decide +kernel)
set_option maxRecDepth 20000 in
theorem gX1_largestPiece_X1_looks : GoodIn wsX1_largestPiece (wsV RX1 66 RX1 yX1_looks wsX1_looks) := goodIn_app (goodIn_of _ (by decide +kernel)) ggX1_largestPiece_X1_looks
set_option maxRecDepth 20000 in
theorem ggX1_largestPiece_X1_isCountry : GoodIn wsX1_largestPiece wsX1_isCountry := goodIn_r _ [19, 20, 21, 6, 22] (by decide +kernel) (by decide +kernel)
set_option maxRecDepth 20000 in
theorem gX1_largestPiece_X1_isCountry : GoodIn wsX1_largestPiece (va_wsS RX1 54 yX1_isCountry wsX1_isCountry) := goodIn_app (goodIn_of _ (by decide +kernel)) ggX1_largestPiece_X1_isCountry
set_option maxRecDepth 20000 in
theorem ggX1_largestPiece_X1_goes : GoodIn wsX1_largestPiece wsX1_goes := goodIn_r _ [26, 27, 37, 38, 39, 40, 41, 42, 43, 44] (by decide +kernel) (by decide +kernel)
set_option maxRecDepth 20000 in
theorem gX1_largestPiece_X1_goes : GoodIn wsX1_largestPiece (wsV RX1 58 RX1 yX1_goes wsX1_goes) := goodIn_app (goodIn_of _ (by decide +kernel)) ggX1_largestPiece_X1_goes
set_option maxRecDepth 20000 in
theorem ggX1_largestPiece_X1_piece : GoodIn wsX1_largestPiece wsX1_piece := goodIn_r _ [30, 31, 32, 6, 33, 11, 12, 13, 14, 15, 16] (by decide +kernel) (by decide +kernel)
set_option maxRecDepth 20000 in
theorem gX1_largestPiece_X1_piece : GoodIn wsX1_largestPiece (va_wsS RX1 81 yX1_piece wsX1_piece) := goodIn_app (goodIn_of _ (by decide +kernel)) ggX1_largestPiece_X1_piece
set_option maxRecDepth 20000 in
theorem ggX1_largestPiece_X1_bits : GoodIn wsX1_largestPiece wsX1_bits := goodIn_r _ [36] (by decide +kernel) (by decide +kernel)
set_option maxRecDepth 20000 in
theorem gX1_largestPiece_X1_bits : GoodIn wsX1_largestPiece (va_wsS RX1 69 yX1_bits wsX1_bits) := goodIn_app (goodIn_of _ (by decide +kernel)) ggX1_largestPiece_X1_bits
theorem dX1_largestPiece_0 : decode cX1_largestPiece 0 = .ok (.aload_n 0, 1) := by decide +kernel
theorem dX1_largestPiece_1 : decode cX1_largestPiece 1 = .ok (.invokevirtual 66, 3) := by decide +kernel
theorem dX1_largestPiece_4 : decode cX1_largestPiece 4 = .ok (.aload_n 0, 1) := by decide +kernel
theorem dX1_largestPiece_5 : decode cX1_largestPiece 5 = .ok (.iload_n 1, 1) := by decide +kernel
theorem dX1_largestPiece_6 : decode cX1_largestPiece 6 = .ok (.invokestatic 54, 3) := by decide +kernel
theorem dX1_largestPiece_9 : decode cX1_largestPiece 9 = .ok (.iconst 1, 1) := by decide +kernel
theorem dX1_largestPiece_10 : decode cX1_largestPiece 10 = .ok (.iconst 1, 1) := by decide +kernel
theorem dX1_largestPiece_11 : decode cX1_largestPiece 11 = .ok (.invokevirtual 58, 3) := by decide +kernel
theorem dX1_largestPiece_14 : decode cX1_largestPiece 14 = .ok (.ifCond .ne 5, 3) := by decide +kernel
theorem dX1_largestPiece_17 : decode cX1_largestPiece 17 = .ok (.iconst 0, 1) := by decide +kernel
theorem dX1_largestPiece_18 : decode cX1_largestPiece 18 = .ok (.ireturn, 1) := by decide +kernel
theorem dX1_largestPiece_19 : decode cX1_largestPiece 19 = .ok (.iconst 0, 1) := by decide +kernel
theorem dX1_largestPiece_20 : decode cX1_largestPiece 20 = .ok (.istore_n 2, 1) := by decide +kernel
theorem dX1_largestPiece_21 : decode cX1_largestPiece 21 = .ok (.aload_n 0, 1) := by decide +kernel
theorem dX1_largestPiece_22 : decode cX1_largestPiece 22 = .ok (.getfield 16, 3) := by decide +kernel
theorem dX1_largestPiece_25 : decode cX1_largestPiece 25 = .ok (.iload_n 1, 1) := by decide +kernel
theorem dX1_largestPiece_26 : decode cX1_largestPiece 26 = .ok (.laload, 1) := by decide +kernel
theorem dX1_largestPiece_27 : decode cX1_largestPiece 27 = .ok (.lstore_n 3, 1) := by decide +kernel
theorem dX1_largestPiece_28 : decode cX1_largestPiece 28 = .ok (.lload_n 3, 1) := by decide +kernel
theorem dX1_largestPiece_29 : decode cX1_largestPiece 29 = .ok (.lconst 0, 1) := by decide +kernel
theorem dX1_largestPiece_30 : decode cX1_largestPiece 30 = .ok (.lcmp, 1) := by decide +kernel
theorem dX1_largestPiece_31 : decode cX1_largestPiece 31 = .ok (.ifCond .eq 39, 3) := by decide +kernel
theorem dX1_largestPiece_34 : decode cX1_largestPiece 34 = .ok (.lload_n 3, 1) := by decide +kernel
theorem dX1_largestPiece_35 : decode cX1_largestPiece 35 = .ok (.invokestatic 81, 3) := by decide +kernel
theorem dX1_largestPiece_38 : decode cX1_largestPiece 38 = .ok (.invokestatic 69, 3) := by decide +kernel
theorem dX1_largestPiece_41 : decode cX1_largestPiece 41 = .ok (.istore 5, 2) := by decide +kernel
theorem dX1_largestPiece_43 : decode cX1_largestPiece 43 = .ok (.iload 5, 2) := by decide +kernel
theorem dX1_largestPiece_45 : decode cX1_largestPiece 45 = .ok (.iload_n 2, 1) := by decide +kernel
theorem dX1_largestPiece_46 : decode cX1_largestPiece 46 = .ok (.if_icmp .le 8, 3) := by decide +kernel
theorem dX1_largestPiece_49 : decode cX1_largestPiece 49 = .ok (.iload 5, 2) := by decide +kernel
theorem dX1_largestPiece_51 : decode cX1_largestPiece 51 = .ok (.goto 4, 3) := by decide +kernel
theorem dX1_largestPiece_54 : decode cX1_largestPiece 54 = .ok (.iload_n 2, 1) := by decide +kernel
theorem dX1_largestPiece_55 : decode cX1_largestPiece 55 = .ok (.istore_n 2, 1) := by decide +kernel
theorem dX1_largestPiece_56 : decode cX1_largestPiece 56 = .ok (.lload_n 3, 1) := by decide +kernel
theorem dX1_largestPiece_57 : decode cX1_largestPiece 57 = .ok (.lload_n 3, 1) := by decide +kernel
theorem dX1_largestPiece_58 : decode cX1_largestPiece 58 = .ok (.invokestatic 81, 3) := by decide +kernel
theorem dX1_largestPiece_61 : decode cX1_largestPiece 61 = .ok (.ldc2_w 84, 3) := by decide +kernel
theorem dX1_largestPiece_64 : decode cX1_largestPiece 64 = .ok (.lxor, 1) := by decide +kernel
theorem dX1_largestPiece_65 : decode cX1_largestPiece 65 = .ok (.land, 1) := by decide +kernel
theorem dX1_largestPiece_66 : decode cX1_largestPiece 66 = .ok (.lstore_n 3, 1) := by decide +kernel
theorem dX1_largestPiece_67 : decode cX1_largestPiece 67 = .ok (.goto (-39), 3) := by decide +kernel
theorem dX1_largestPiece_70 : decode cX1_largestPiece 70 = .ok (.iload_n 2, 1) := by decide +kernel
theorem dX1_largestPiece_71 : decode cX1_largestPiece 71 = .ok (.ireturn, 1) := by decide +kernel
set_option maxRecDepth 20000 in
theorem ggX1_scattered_X1_looks : GoodIn wsX1_scattered wsX1_looks := goodIn_r _ [6, 7, 8, 9, 10, 11, 12, 5, 13, 14, 15, 16, 28, 29, 30, 31, 32, 33, 34, 35] (by decide +kernel) (by decide +kernel)
set_option maxRecDepth 20000 in
theorem gX1_scattered_X1_looks : GoodIn wsX1_scattered (wsV RX1 66 RX1 yX1_looks wsX1_looks) := goodIn_app (goodIn_of _ (by decide +kernel)) ggX1_scattered_X1_looks
set_option maxRecDepth 20000 in
theorem ggX1_scattered_X1_piecesOf : GoodIn wsX1_scattered wsX1_piecesOf := goodIn_r _ [20, 8, 21, 22, 23, 5, 24, 25, 26, 27, 11, 12, 13, 14, 15, 16, 28, 29, 30, 31, 32, 33, 34, 35] (by decide +kernel) (by decide +kernel)
set_option maxRecDepth 20000 in
theorem gX1_scattered_X1_piecesOf : GoodIn wsX1_scattered (wsV RX1 86 RX1 yX1_piecesOf wsX1_piecesOf) := goodIn_app (goodIn_of _ (by decide +kernel)) ggX1_scattered_X1_piecesOf
theorem dX1_scattered_0 : decode cX1_scattered 0 = .ok (.aload_n 0, 1) := by decide +kernel
theorem dX1_scattered_1 : decode cX1_scattered 1 = .ok (.invokevirtual 66, 3) := by decide +kernel
theorem dX1_scattered_4 : decode cX1_scattered 4 = .ok (.aload_n 0, 1) := by decide +kernel
theorem dX1_scattered_5 : decode cX1_scattered 5 = .ok (.iconst 0, 1) := by decide +kernel
theorem dX1_scattered_6 : decode cX1_scattered 6 = .ok (.putfield 29, 3) := by decide +kernel
theorem dX1_scattered_9 : decode cX1_scattered 9 = .ok (.iconst 0, 1) := by decide +kernel
theorem dX1_scattered_10 : decode cX1_scattered 10 = .ok (.istore_n 1, 1) := by decide +kernel
theorem dX1_scattered_11 : decode cX1_scattered 11 = .ok (.iconst 0, 1) := by decide +kernel
theorem dX1_scattered_12 : decode cX1_scattered 12 = .ok (.istore_n 2, 1) := by decide +kernel
theorem dX1_scattered_13 : decode cX1_scattered 13 = .ok (.iload_n 2, 1) := by decide +kernel
theorem dX1_scattered_14 : decode cX1_scattered 14 = .ok (.bipush 10, 2) := by decide +kernel
theorem dX1_scattered_16 : decode cX1_scattered 16 = .ok (.if_icmp .ge 26, 3) := by decide +kernel
theorem dX1_scattered_19 : decode cX1_scattered 19 = .ok (.iload_n 1, 1) := by decide +kernel
theorem dX1_scattered_20 : decode cX1_scattered 20 = .ok (.aload_n 0, 1) := by decide +kernel
theorem dX1_scattered_21 : decode cX1_scattered 21 = .ok (.iload_n 2, 1) := by decide +kernel
theorem dX1_scattered_22 : decode cX1_scattered 22 = .ok (.invokevirtual 86, 3) := by decide +kernel
theorem dX1_scattered_25 : decode cX1_scattered 25 = .ok (.iconst 1, 1) := by decide +kernel
theorem dX1_scattered_26 : decode cX1_scattered 26 = .ok (.if_icmp .le 7, 3) := by decide +kernel
theorem dX1_scattered_29 : decode cX1_scattered 29 = .ok (.iconst 1, 1) := by decide +kernel
theorem dX1_scattered_30 : decode cX1_scattered 30 = .ok (.goto 4, 3) := by decide +kernel
theorem dX1_scattered_33 : decode cX1_scattered 33 = .ok (.iconst 0, 1) := by decide +kernel
theorem dX1_scattered_34 : decode cX1_scattered 34 = .ok (.iadd, 1) := by decide +kernel
theorem dX1_scattered_35 : decode cX1_scattered 35 = .ok (.istore_n 1, 1) := by decide +kernel
theorem dX1_scattered_36 : decode cX1_scattered 36 = .ok (.iinc 2 1, 3) := by decide +kernel
theorem dX1_scattered_39 : decode cX1_scattered 39 = .ok (.goto (-26), 3) := by decide +kernel
theorem dX1_scattered_42 : decode cX1_scattered 42 = .ok (.iload_n 1, 1) := by decide +kernel
theorem dX1_scattered_43 : decode cX1_scattered 43 = .ok (.ireturn, 1) := by decide +kernel
set_option maxRecDepth 20000 in
theorem ggX1_neighbours_X1_looks : GoodIn wsX1_neighbours wsX1_looks := goodIn_r _ [6, 7, 8, 9, 1, 10, 11, 5, 12, 13, 14, 15, 30, 31, 32, 33, 34, 35, 36, 37] (by decide +kernel) (by decide +kernel)
set_option maxRecDepth 20000 in
theorem gX1_neighbours_X1_looks : GoodIn wsX1_neighbours (wsV RX1 66 RX1 yX1_looks wsX1_looks) := goodIn_app (goodIn_of _ (by decide +kernel)) ggX1_neighbours_X1_looks
set_option maxRecDepth 20000 in
theorem ggX1_neighbours_X1_isCountry : GoodIn wsX1_neighbours wsX1_isCountry := goodIn_r _ [18, 19, 20, 5, 21] (by decide +kernel) (by decide +kernel)
set_option maxRecDepth 20000 in
theorem gX1_neighbours_X1_isCountry : GoodIn wsX1_neighbours (va_wsS RX1 54 yX1_isCountry wsX1_isCountry) := goodIn_app (goodIn_of _ (by decide +kernel)) ggX1_neighbours_X1_isCountry
set_option maxRecDepth 20000 in
theorem ggX1_neighbours_X1_goes : GoodIn wsX1_neighbours wsX1_goes := goodIn_r _ [25, 26, 30, 31, 32, 33, 34, 35, 36, 37] (by decide +kernel) (by decide +kernel)
set_option maxRecDepth 20000 in
theorem gX1_neighbours_X1_goes : GoodIn wsX1_neighbours (wsV RX1 58 RX1 yX1_goes wsX1_goes) := goodIn_app (goodIn_of _ (by decide +kernel)) ggX1_neighbours_X1_goes
set_option maxRecDepth 20000 in
theorem ggX1_neighbours_X1_bits : GoodIn wsX1_neighbours wsX1_bits := goodIn_r _ [29] (by decide +kernel) (by decide +kernel)
set_option maxRecDepth 20000 in
theorem gX1_neighbours_X1_bits : GoodIn wsX1_neighbours (va_wsS RX1 69 yX1_bits wsX1_bits) := goodIn_app (goodIn_of _ (by decide +kernel)) ggX1_neighbours_X1_bits
theorem dX1_neighbours_0 : decode cX1_neighbours 0 = .ok (.aload_n 0, 1) := by decide +kernel
theorem dX1_neighbours_1 : decode cX1_neighbours 1 = .ok (.invokevirtual 66, 3) := by decide +kernel
theorem dX1_neighbours_4 : decode cX1_neighbours 4 = .ok (.aload_n 0, 1) := by decide +kernel
theorem dX1_neighbours_5 : decode cX1_neighbours 5 = .ok (.iload_n 1, 1) := by decide +kernel
theorem dX1_neighbours_6 : decode cX1_neighbours 6 = .ok (.invokestatic 54, 3) := by decide +kernel
theorem dX1_neighbours_9 : decode cX1_neighbours 9 = .ok (.iconst 1, 1) := by decide +kernel
theorem dX1_neighbours_10 : decode cX1_neighbours 10 = .ok (.iconst 1, 1) := by decide +kernel
theorem dX1_neighbours_11 : decode cX1_neighbours 11 = .ok (.invokevirtual 58, 3) := by decide +kernel
theorem dX1_neighbours_14 : decode cX1_neighbours 14 = .ok (.ifCond .eq 16, 3) := by decide +kernel
theorem dX1_neighbours_17 : decode cX1_neighbours 17 = .ok (.aload_n 0, 1) := by decide +kernel
theorem dX1_neighbours_18 : decode cX1_neighbours 18 = .ok (.getfield 20, 3) := by decide +kernel
theorem dX1_neighbours_21 : decode cX1_neighbours 21 = .ok (.iload_n 1, 1) := by decide +kernel
theorem dX1_neighbours_22 : decode cX1_neighbours 22 = .ok (.iaload, 1) := by decide +kernel
theorem dX1_neighbours_23 : decode cX1_neighbours 23 = .ok (.i2l, 1) := by decide +kernel
theorem dX1_neighbours_24 : decode cX1_neighbours 24 = .ok (.invokestatic 69, 3) := by decide +kernel
theorem dX1_neighbours_27 : decode cX1_neighbours 27 = .ok (.goto 4, 3) := by decide +kernel
theorem dX1_neighbours_30 : decode cX1_neighbours 30 = .ok (.iconst 0, 1) := by decide +kernel
theorem dX1_neighbours_31 : decode cX1_neighbours 31 = .ok (.ireturn, 1) := by decide +kernel
set_option maxRecDepth 20000 in
theorem ggX1_touches_X1_bits : GoodIn wsX1_touches wsX1_bits := goodIn_r _ [5] (by decide +kernel) (by decide +kernel)
set_option maxRecDepth 20000 in
theorem gX1_touches_X1_bits : GoodIn wsX1_touches (va_wsS RX1 69 yX1_bits wsX1_bits) := goodIn_app (goodIn_of _ (by decide +kernel)) ggX1_touches_X1_bits
theorem dX1_touches_0 : decode cX1_touches 0 = .ok (.lload_n 0, 1) := by decide +kernel
theorem dX1_touches_1 : decode cX1_touches 1 = .ok (.ldc2_w 37, 3) := by decide +kernel
theorem dX1_touches_4 : decode cX1_touches 4 = .ok (.land, 1) := by decide +kernel
theorem dX1_touches_5 : decode cX1_touches 5 = .ok (.iconst 1, 1) := by decide +kernel
theorem dX1_touches_6 : decode cX1_touches 6 = .ok (.lshl, 1) := by decide +kernel
theorem dX1_touches_7 : decode cX1_touches 7 = .ok (.lload_n 2, 1) := by decide +kernel
theorem dX1_touches_8 : decode cX1_touches 8 = .ok (.land, 1) := by decide +kernel
theorem dX1_touches_9 : decode cX1_touches 9 = .ok (.invokestatic 69, 3) := by decide +kernel
theorem dX1_touches_12 : decode cX1_touches 12 = .ok (.lload_n 0, 1) := by decide +kernel
theorem dX1_touches_13 : decode cX1_touches 13 = .ok (.bipush 6, 2) := by decide +kernel
theorem dX1_touches_15 : decode cX1_touches 15 = .ok (.lshl, 1) := by decide +kernel
theorem dX1_touches_16 : decode cX1_touches 16 = .ok (.lload_n 2, 1) := by decide +kernel
theorem dX1_touches_17 : decode cX1_touches 17 = .ok (.land, 1) := by decide +kernel
theorem dX1_touches_18 : decode cX1_touches 18 = .ok (.invokestatic 69, 3) := by decide +kernel
theorem dX1_touches_21 : decode cX1_touches 21 = .ok (.iadd, 1) := by decide +kernel
theorem dX1_touches_22 : decode cX1_touches 22 = .ok (.ireturn, 1) := by decide +kernel
set_option maxRecDepth 20000 in
theorem ggX1_border_X1_looks : GoodIn wsX1_border wsX1_looks := goodIn_r _ [6, 7, 1, 8, 9, 10, 11, 5, 12, 13, 14, 15, 33, 34, 35, 36, 37, 38, 39, 40] (by decide +kernel) (by decide +kernel)
set_option maxRecDepth 20000 in
theorem gX1_border_X1_looks : GoodIn wsX1_border (wsV RX1 66 RX1 yX1_looks wsX1_looks) := goodIn_app (goodIn_of _ (by decide +kernel)) ggX1_border_X1_looks
set_option maxRecDepth 20000 in
theorem ggX1_border_X1_isCountry : GoodIn wsX1_border wsX1_isCountry := goodIn_r _ [18, 19, 20, 5, 21] (by decide +kernel) (by decide +kernel)
set_option maxRecDepth 20000 in
theorem gX1_border_X1_isCountry : GoodIn wsX1_border (va_wsS RX1 54 yX1_isCountry wsX1_isCountry) := goodIn_app (goodIn_of _ (by decide +kernel)) ggX1_border_X1_isCountry
set_option maxRecDepth 20000 in
theorem ggX1_border_X1_goes : GoodIn wsX1_border wsX1_goes := goodIn_r _ [25, 26, 33, 34, 35, 36, 37, 38, 39, 40] (by decide +kernel) (by decide +kernel)
set_option maxRecDepth 20000 in
theorem gX1_border_X1_goes : GoodIn wsX1_border (wsV RX1 58 RX1 yX1_goes wsX1_goes) := goodIn_app (goodIn_of _ (by decide +kernel)) ggX1_border_X1_goes
set_option maxRecDepth 20000 in
theorem ggX1_border_X1_touches : GoodIn wsX1_border wsX1_touches := goodIn_r _ [29, 13, 30, 31, 5, 32] (by decide +kernel) (by decide +kernel)
set_option maxRecDepth 20000 in
theorem gX1_border_X1_touches : GoodIn wsX1_border (va_wsS RX1 89 yX1_touches wsX1_touches) := goodIn_app (goodIn_of _ (by decide +kernel)) ggX1_border_X1_touches
theorem dX1_border_0 : decode cX1_border 0 = .ok (.aload_n 0, 1) := by decide +kernel
theorem dX1_border_1 : decode cX1_border 1 = .ok (.invokevirtual 66, 3) := by decide +kernel
end
section
theorem dX1_border_4 : decode cX1_border 4 = .ok (.aload_n 0, 1) := by decide +kernel
theorem dX1_border_5 : decode cX1_border 5 = .ok (.iload_n 1, 1) := by decide +kernel
theorem dX1_border_6 : decode cX1_border 6 = .ok (.invokestatic 54, 3) := by decide +kernel
theorem dX1_border_9 : decode cX1_border 9 = .ok (.ifCond .eq 14, 3) := by decide +kernel
theorem dX1_border_12 : decode cX1_border 12 = .ok (.iload_n 2, 1) := by decide +kernel
theorem dX1_border_13 : decode cX1_border 13 = .ok (.invokestatic 54, 3) := by decide +kernel
theorem dX1_border_16 : decode cX1_border 16 = .ok (.ifCond .eq 7, 3) := by decide +kernel
theorem dX1_border_19 : decode cX1_border 19 = .ok (.iconst 1, 1) := by decide +kernel
theorem dX1_border_20 : decode cX1_border 20 = .ok (.goto 4, 3) := by decide +kernel
theorem dX1_border_23 : decode cX1_border 23 = .ok (.iconst 0, 1) := by decide +kernel
theorem dX1_border_24 : decode cX1_border 24 = .ok (.iconst 1, 1) := by decide +kernel
theorem dX1_border_25 : decode cX1_border 25 = .ok (.iconst 1, 1) := by decide +kernel
theorem dX1_border_26 : decode cX1_border 26 = .ok (.invokevirtual 58, 3) := by decide +kernel
theorem dX1_border_29 : decode cX1_border 29 = .ok (.ifCond .ne 5, 3) := by decide +kernel
theorem dX1_border_32 : decode cX1_border 32 = .ok (.iconst 0, 1) := by decide +kernel
theorem dX1_border_33 : decode cX1_border 33 = .ok (.ireturn, 1) := by decide +kernel
theorem dX1_border_34 : decode cX1_border 34 = .ok (.iload_n 1, 1) := by decide +kernel
theorem dX1_border_35 : decode cX1_border 35 = .ok (.iload_n 2, 1) := by decide +kernel
theorem dX1_border_36 : decode cX1_border 36 = .ok (.if_icmp .ne 7, 3) := by decide +kernel
theorem dX1_border_39 : decode cX1_border 39 = .ok (.iconst 0, 1) := by decide +kernel
theorem dX1_border_40 : decode cX1_border 40 = .ok (.goto 34, 3) := by decide +kernel
theorem dX1_border_43 : decode cX1_border 43 = .ok (.aload_n 0, 1) := by decide +kernel
theorem dX1_border_44 : decode cX1_border 44 = .ok (.getfield 16, 3) := by decide +kernel
theorem dX1_border_47 : decode cX1_border 47 = .ok (.iload_n 1, 1) := by decide +kernel
theorem dX1_border_48 : decode cX1_border 48 = .ok (.laload, 1) := by decide +kernel
theorem dX1_border_49 : decode cX1_border 49 = .ok (.aload_n 0, 1) := by decide +kernel
theorem dX1_border_50 : decode cX1_border 50 = .ok (.getfield 16, 3) := by decide +kernel
theorem dX1_border_53 : decode cX1_border 53 = .ok (.iload_n 2, 1) := by decide +kernel
theorem dX1_border_54 : decode cX1_border 54 = .ok (.laload, 1) := by decide +kernel
theorem dX1_border_55 : decode cX1_border 55 = .ok (.invokestatic 89, 3) := by decide +kernel
theorem dX1_border_58 : decode cX1_border 58 = .ok (.aload_n 0, 1) := by decide +kernel
theorem dX1_border_59 : decode cX1_border 59 = .ok (.getfield 16, 3) := by decide +kernel
theorem dX1_border_62 : decode cX1_border 62 = .ok (.iload_n 2, 1) := by decide +kernel
theorem dX1_border_63 : decode cX1_border 63 = .ok (.laload, 1) := by decide +kernel
theorem dX1_border_64 : decode cX1_border 64 = .ok (.aload_n 0, 1) := by decide +kernel
theorem dX1_border_65 : decode cX1_border 65 = .ok (.getfield 16, 3) := by decide +kernel
theorem dX1_border_68 : decode cX1_border 68 = .ok (.iload_n 1, 1) := by decide +kernel
theorem dX1_border_69 : decode cX1_border 69 = .ok (.laload, 1) := by decide +kernel
theorem dX1_border_70 : decode cX1_border 70 = .ok (.invokestatic 89, 3) := by decide +kernel
theorem dX1_border_73 : decode cX1_border 73 = .ok (.iadd, 1) := by decide +kernel
theorem dX1_border_74 : decode cX1_border 74 = .ok (.ireturn, 1) := by decide +kernel
set_option maxRecDepth 20000 in
theorem ggX1_enclosed_X1_looks : GoodIn wsX1_enclosed wsX1_looks := goodIn_r _ [9, 10, 2, 11, 12, 13, 14, 8, 15, 16, 17, 1, 35, 36, 37, 38, 39, 40, 41, 42] (by decide +kernel) (by decide +kernel)
set_option maxRecDepth 20000 in
theorem gX1_enclosed_X1_looks : GoodIn wsX1_enclosed (wsV RX1 66 RX1 yX1_looks wsX1_looks) := goodIn_app (goodIn_of _ (by decide +kernel)) ggX1_enclosed_X1_looks
set_option maxRecDepth 20000 in
theorem ggX1_enclosed_X1_isCountry : GoodIn wsX1_enclosed wsX1_isCountry := goodIn_r _ [20, 21, 22, 8, 23] (by decide +kernel) (by decide +kernel)
set_option maxRecDepth 20000 in
theorem gX1_enclosed_X1_isCountry : GoodIn wsX1_enclosed (va_wsS RX1 54 yX1_isCountry wsX1_isCountry) := goodIn_app (goodIn_of _ (by decide +kernel)) ggX1_enclosed_X1_isCountry
set_option maxRecDepth 20000 in
theorem ggX1_enclosed_X1_goes : GoodIn wsX1_enclosed wsX1_goes := goodIn_r _ [27, 28, 35, 36, 37, 38, 39, 40, 41, 42] (by decide +kernel) (by decide +kernel)
set_option maxRecDepth 20000 in
theorem gX1_enclosed_X1_goes : GoodIn wsX1_enclosed (wsV RX1 58 RX1 yX1_goes wsX1_goes) := goodIn_app (goodIn_of _ (by decide +kernel)) ggX1_enclosed_X1_goes
set_option maxRecDepth 20000 in
theorem ggX1_enclosed_X1_reach : GoodIn wsX1_enclosed wsX1_reach := goodIn_r _ [31, 13, 14, 8, 15, 16, 17, 1] (by decide +kernel) (by decide +kernel)
set_option maxRecDepth 20000 in
theorem gX1_enclosed_X1_reach : GoodIn wsX1_enclosed (va_wsS RX1 77 yX1_reach wsX1_reach) := goodIn_app (goodIn_of _ (by decide +kernel)) ggX1_enclosed_X1_reach
set_option maxRecDepth 20000 in
theorem ggX1_enclosed_X1_bits : GoodIn wsX1_enclosed wsX1_bits := goodIn_r _ [34] (by decide +kernel) (by decide +kernel)
set_option maxRecDepth 20000 in
theorem gX1_enclosed_X1_bits : GoodIn wsX1_enclosed (va_wsS RX1 69 yX1_bits wsX1_bits) := goodIn_app (goodIn_of _ (by decide +kernel)) ggX1_enclosed_X1_bits
theorem dX1_enclosed_0 : decode cX1_enclosed 0 = .ok (.aload_n 0, 1) := by decide +kernel
theorem dX1_enclosed_1 : decode cX1_enclosed 1 = .ok (.invokevirtual 66, 3) := by decide +kernel
theorem dX1_enclosed_4 : decode cX1_enclosed 4 = .ok (.aload_n 0, 1) := by decide +kernel
theorem dX1_enclosed_5 : decode cX1_enclosed 5 = .ok (.iload_n 1, 1) := by decide +kernel
theorem dX1_enclosed_6 : decode cX1_enclosed 6 = .ok (.invokestatic 54, 3) := by decide +kernel
theorem dX1_enclosed_9 : decode cX1_enclosed 9 = .ok (.iconst 1, 1) := by decide +kernel
theorem dX1_enclosed_10 : decode cX1_enclosed 10 = .ok (.iconst 1, 1) := by decide +kernel
theorem dX1_enclosed_11 : decode cX1_enclosed 11 = .ok (.invokevirtual 58, 3) := by decide +kernel
theorem dX1_enclosed_14 : decode cX1_enclosed 14 = .ok (.ifCond .ne 5, 3) := by decide +kernel
theorem dX1_enclosed_17 : decode cX1_enclosed 17 = .ok (.iconst 0, 1) := by decide +kernel
theorem dX1_enclosed_18 : decode cX1_enclosed 18 = .ok (.ireturn, 1) := by decide +kernel
theorem dX1_enclosed_19 : decode cX1_enclosed 19 = .ok (.ldc2_w 41, 3) := by decide +kernel
theorem dX1_enclosed_22 : decode cX1_enclosed 22 = .ok (.aload_n 0, 1) := by decide +kernel
theorem dX1_enclosed_23 : decode cX1_enclosed 23 = .ok (.getfield 16, 3) := by decide +kernel
theorem dX1_enclosed_26 : decode cX1_enclosed 26 = .ok (.iload_n 1, 1) := by decide +kernel
theorem dX1_enclosed_27 : decode cX1_enclosed 27 = .ok (.laload, 1) := by decide +kernel
theorem dX1_enclosed_28 : decode cX1_enclosed 28 = .ok (.ldc2_w 84, 3) := by decide +kernel
theorem dX1_enclosed_31 : decode cX1_enclosed 31 = .ok (.lxor, 1) := by decide +kernel
theorem dX1_enclosed_32 : decode cX1_enclosed 32 = .ok (.land, 1) := by decide +kernel
theorem dX1_enclosed_33 : decode cX1_enclosed 33 = .ok (.lstore_n 2, 1) := by decide +kernel
theorem dX1_enclosed_34 : decode cX1_enclosed 34 = .ok (.lload_n 2, 1) := by decide +kernel
theorem dX1_enclosed_35 : decode cX1_enclosed 35 = .ok (.ldc2_w 93, 3) := by decide +kernel
theorem dX1_enclosed_38 : decode cX1_enclosed 38 = .ok (.lload_n 2, 1) := by decide +kernel
theorem dX1_enclosed_39 : decode cX1_enclosed 39 = .ok (.invokestatic 77, 3) := by decide +kernel
theorem dX1_enclosed_42 : decode cX1_enclosed 42 = .ok (.ldc2_w 84, 3) := by decide +kernel
theorem dX1_enclosed_45 : decode cX1_enclosed 45 = .ok (.lxor, 1) := by decide +kernel
theorem dX1_enclosed_46 : decode cX1_enclosed 46 = .ok (.land, 1) := by decide +kernel
theorem dX1_enclosed_47 : decode cX1_enclosed 47 = .ok (.invokestatic 69, 3) := by decide +kernel
theorem dX1_enclosed_50 : decode cX1_enclosed 50 = .ok (.ireturn, 1) := by decide +kernel
theorem dX1_areNear_0 : decode cX1_areNear 0 = .ok (.iload_n 1, 1) := by decide +kernel
theorem dX1_areNear_1 : decode cX1_areNear 1 = .ok (.aload_n 0, 1) := by decide +kernel
theorem dX1_areNear_2 : decode cX1_areNear 2 = .ok (.getfield 47, 3) := by decide +kernel
theorem dX1_areNear_5 : decode cX1_areNear 5 = .ok (.iconst (-1), 1) := by decide +kernel
theorem dX1_areNear_6 : decode cX1_areNear 6 = .ok (.ixor, 1) := by decide +kernel
theorem dX1_areNear_7 : decode cX1_areNear 7 = .ok (.iand, 1) := by decide +kernel
theorem dX1_areNear_8 : decode cX1_areNear 8 = .ok (.ifCond .ne 7, 3) := by decide +kernel
theorem dX1_areNear_11 : decode cX1_areNear 11 = .ok (.iconst 1, 1) := by decide +kernel
theorem dX1_areNear_12 : decode cX1_areNear 12 = .ok (.goto 4, 3) := by decide +kernel
theorem dX1_areNear_15 : decode cX1_areNear 15 = .ok (.iconst 0, 1) := by decide +kernel
theorem dX1_areNear_16 : decode cX1_areNear 16 = .ok (.istore_n 3, 1) := by decide +kernel
theorem dX1_areNear_17 : decode cX1_areNear 17 = .ok (.iconst 0, 1) := by decide +kernel
theorem dX1_areNear_18 : decode cX1_areNear 18 = .ok (.istore 4, 2) := by decide +kernel
theorem dX1_areNear_20 : decode cX1_areNear 20 = .ok (.iload 4, 2) := by decide +kernel
theorem dX1_areNear_22 : decode cX1_areNear 22 = .ok (.bipush 10, 2) := by decide +kernel
theorem dX1_areNear_24 : decode cX1_areNear 24 = .ok (.if_icmp .ge 61, 3) := by decide +kernel
theorem dX1_areNear_27 : decode cX1_areNear 27 = .ok (.iload_n 1, 1) := by decide +kernel
theorem dX1_areNear_28 : decode cX1_areNear 28 = .ok (.iconst 1, 1) := by decide +kernel
theorem dX1_areNear_29 : decode cX1_areNear 29 = .ok (.iload 4, 2) := by decide +kernel
theorem dX1_areNear_31 : decode cX1_areNear 31 = .ok (.ishl, 1) := by decide +kernel
theorem dX1_areNear_32 : decode cX1_areNear 32 = .ok (.iconst (-1), 1) := by decide +kernel
theorem dX1_areNear_33 : decode cX1_areNear 33 = .ok (.ixor, 1) := by decide +kernel
theorem dX1_areNear_34 : decode cX1_areNear 34 = .ok (.iand, 1) := by decide +kernel
theorem dX1_areNear_35 : decode cX1_areNear 35 = .ok (.istore 5, 2) := by decide +kernel
theorem dX1_areNear_37 : decode cX1_areNear 37 = .ok (.iload_n 3, 1) := by decide +kernel
theorem dX1_areNear_38 : decode cX1_areNear 38 = .ok (.ifCond .eq 39, 3) := by decide +kernel
theorem dX1_areNear_41 : decode cX1_areNear 41 = .ok (.iload_n 1, 1) := by decide +kernel
theorem dX1_areNear_42 : decode cX1_areNear 42 = .ok (.iload 4, 2) := by decide +kernel
theorem dX1_areNear_44 : decode cX1_areNear 44 = .ok (.ishr, 1) := by decide +kernel
theorem dX1_areNear_45 : decode cX1_areNear 45 = .ok (.iconst 1, 1) := by decide +kernel
theorem dX1_areNear_46 : decode cX1_areNear 46 = .ok (.iand, 1) := by decide +kernel
theorem dX1_areNear_47 : decode cX1_areNear 47 = .ok (.ifCond .eq 26, 3) := by decide +kernel
theorem dX1_areNear_50 : decode cX1_areNear 50 = .ok (.aload_n 0, 1) := by decide +kernel
theorem dX1_areNear_51 : decode cX1_areNear 51 = .ok (.getfield 20, 3) := by decide +kernel
theorem dX1_areNear_54 : decode cX1_areNear 54 = .ok (.iload 4, 2) := by decide +kernel
theorem dX1_areNear_56 : decode cX1_areNear 56 = .ok (.iaload, 1) := by decide +kernel
theorem dX1_areNear_57 : decode cX1_areNear 57 = .ok (.iload 5, 2) := by decide +kernel
theorem dX1_areNear_59 : decode cX1_areNear 59 = .ok (.iand, 1) := by decide +kernel
theorem dX1_areNear_60 : decode cX1_areNear 60 = .ok (.iload_n 2, 1) := by decide +kernel
theorem dX1_areNear_61 : decode cX1_areNear 61 = .ok (.ifCond .eq 8, 3) := by decide +kernel
theorem dX1_areNear_64 : decode cX1_areNear 64 = .ok (.iload 5, 2) := by decide +kernel
theorem dX1_areNear_66 : decode cX1_areNear 66 = .ok (.goto 4, 3) := by decide +kernel
theorem dX1_areNear_69 : decode cX1_areNear 69 = .ok (.iconst 0, 1) := by decide +kernel
theorem dX1_areNear_70 : decode cX1_areNear 70 = .ok (.if_icmp .ne 7, 3) := by decide +kernel
theorem dX1_areNear_73 : decode cX1_areNear 73 = .ok (.iconst 1, 1) := by decide +kernel
theorem dX1_areNear_74 : decode cX1_areNear 74 = .ok (.goto 4, 3) := by decide +kernel
theorem dX1_areNear_77 : decode cX1_areNear 77 = .ok (.iconst 0, 1) := by decide +kernel
theorem dX1_areNear_78 : decode cX1_areNear 78 = .ok (.istore_n 3, 1) := by decide +kernel
theorem dX1_areNear_79 : decode cX1_areNear 79 = .ok (.iinc 4 1, 3) := by decide +kernel
theorem dX1_areNear_82 : decode cX1_areNear 82 = .ok (.goto (-62), 3) := by decide +kernel
theorem dX1_areNear_85 : decode cX1_areNear 85 = .ok (.iload_n 3, 1) := by decide +kernel
theorem dX1_areNear_86 : decode cX1_areNear 86 = .ok (.ireturn, 1) := by decide +kernel
set_option maxRecDepth 20000 in
theorem ggX1_allNeighbours_X1_looks : GoodIn wsX1_allNeighbours wsX1_looks := goodIn_r _ [6, 7, 8, 9, 10, 11, 12, 5, 13, 14, 15, 16, 24, 25, 26, 27, 28, 29, 30, 31] (by decide +kernel) (by decide +kernel)
set_option maxRecDepth 20000 in
theorem gX1_allNeighbours_X1_looks : GoodIn wsX1_allNeighbours (wsV RX1 66 RX1 yX1_looks wsX1_looks) := goodIn_app (goodIn_of _ (by decide +kernel)) ggX1_allNeighbours_X1_looks
set_option maxRecDepth 20000 in
theorem ggX1_allNeighbours_X1_bits : GoodIn wsX1_allNeighbours wsX1_bits := goodIn_r _ [19] (by decide +kernel) (by decide +kernel)
set_option maxRecDepth 20000 in
theorem gX1_allNeighbours_X1_bits : GoodIn wsX1_allNeighbours (va_wsS RX1 69 yX1_bits wsX1_bits) := goodIn_app (goodIn_of _ (by decide +kernel)) ggX1_allNeighbours_X1_bits
set_option maxRecDepth 20000 in
theorem ggX1_allNeighbours_X1_areNear : GoodIn wsX1_allNeighbours wsX1_areNear := goodIn_r _ [23, 7, 10, 24, 25, 26, 27, 28, 29, 30, 31] (by decide +kernel) (by decide +kernel)
set_option maxRecDepth 20000 in
theorem gX1_allNeighbours_X1_areNear : GoodIn wsX1_allNeighbours (wsV RX1 95 RX1 yX1_areNear wsX1_areNear) := goodIn_app (goodIn_of _ (by decide +kernel)) ggX1_allNeighbours_X1_areNear
theorem dX1_allNeighbours_0 : decode cX1_allNeighbours 0 = .ok (.aload_n 0, 1) := by decide +kernel
theorem dX1_allNeighbours_1 : decode cX1_allNeighbours 1 = .ok (.invokevirtual 66, 3) := by decide +kernel
theorem dX1_allNeighbours_4 : decode cX1_allNeighbours 4 = .ok (.aload_n 0, 1) := by decide +kernel
theorem dX1_allNeighbours_5 : decode cX1_allNeighbours 5 = .ok (.iconst 0, 1) := by decide +kernel
theorem dX1_allNeighbours_6 : decode cX1_allNeighbours 6 = .ok (.putfield 29, 3) := by decide +kernel
theorem dX1_allNeighbours_9 : decode cX1_allNeighbours 9 = .ok (.iconst 0, 1) := by decide +kernel
theorem dX1_allNeighbours_10 : decode cX1_allNeighbours 10 = .ok (.istore_n 1, 1) := by decide +kernel
theorem dX1_allNeighbours_11 : decode cX1_allNeighbours 11 = .ok (.iconst 0, 1) := by decide +kernel
theorem dX1_allNeighbours_12 : decode cX1_allNeighbours 12 = .ok (.istore_n 2, 1) := by decide +kernel
theorem dX1_allNeighbours_13 : decode cX1_allNeighbours 13 = .ok (.iload_n 2, 1) := by decide +kernel
theorem dX1_allNeighbours_14 : decode cX1_allNeighbours 14 = .ok (.sipush 1024, 3) := by decide +kernel
theorem dX1_allNeighbours_17 : decode cX1_allNeighbours 17 = .ok (.if_icmp .ge 37, 3) := by decide +kernel
theorem dX1_allNeighbours_20 : decode cX1_allNeighbours 20 = .ok (.iload_n 2, 1) := by decide +kernel
theorem dX1_allNeighbours_21 : decode cX1_allNeighbours 21 = .ok (.i2l, 1) := by decide +kernel
theorem dX1_allNeighbours_22 : decode cX1_allNeighbours 22 = .ok (.invokestatic 69, 3) := by decide +kernel
theorem dX1_allNeighbours_25 : decode cX1_allNeighbours 25 = .ok (.iload_n 1, 1) := by decide +kernel
theorem dX1_allNeighbours_26 : decode cX1_allNeighbours 26 = .ok (.if_icmp .le 20, 3) := by decide +kernel
theorem dX1_allNeighbours_29 : decode cX1_allNeighbours 29 = .ok (.aload_n 0, 1) := by decide +kernel
theorem dX1_allNeighbours_30 : decode cX1_allNeighbours 30 = .ok (.iload_n 2, 1) := by decide +kernel
theorem dX1_allNeighbours_31 : decode cX1_allNeighbours 31 = .ok (.iconst 1, 1) := by decide +kernel
theorem dX1_allNeighbours_32 : decode cX1_allNeighbours 32 = .ok (.invokevirtual 95, 3) := by decide +kernel
theorem dX1_allNeighbours_35 : decode cX1_allNeighbours 35 = .ok (.ifCond .eq 11, 3) := by decide +kernel
theorem dX1_allNeighbours_38 : decode cX1_allNeighbours 38 = .ok (.iload_n 2, 1) := by decide +kernel
theorem dX1_allNeighbours_39 : decode cX1_allNeighbours 39 = .ok (.i2l, 1) := by decide +kernel
theorem dX1_allNeighbours_40 : decode cX1_allNeighbours 40 = .ok (.invokestatic 69, 3) := by decide +kernel
theorem dX1_allNeighbours_43 : decode cX1_allNeighbours 43 = .ok (.goto 4, 3) := by decide +kernel
theorem dX1_allNeighbours_46 : decode cX1_allNeighbours 46 = .ok (.iload_n 1, 1) := by decide +kernel
theorem dX1_allNeighbours_47 : decode cX1_allNeighbours 47 = .ok (.istore_n 1, 1) := by decide +kernel
theorem dX1_allNeighbours_48 : decode cX1_allNeighbours 48 = .ok (.iinc 2 1, 3) := by decide +kernel
theorem dX1_allNeighbours_51 : decode cX1_allNeighbours 51 = .ok (.goto (-38), 3) := by decide +kernel
theorem dX1_allNeighbours_54 : decode cX1_allNeighbours 54 = .ok (.iload_n 1, 1) := by decide +kernel
theorem dX1_allNeighbours_55 : decode cX1_allNeighbours 55 = .ok (.ireturn, 1) := by decide +kernel
set_option maxRecDepth 20000 in
theorem ggX1_tint_X1_isCountry : GoodIn wsX1_tint wsX1_isCountry := goodIn_r _ [5, 6, 7, 4, 8] (by decide +kernel) (by decide +kernel)
set_option maxRecDepth 20000 in
theorem gX1_tint_X1_isCountry : GoodIn wsX1_tint (va_wsS RX1 54 yX1_isCountry wsX1_isCountry) := goodIn_app (goodIn_of _ (by decide +kernel)) ggX1_tint_X1_isCountry
set_option maxRecDepth 20000 in
theorem ggX1_tint_X1_in : GoodIn wsX1_tint wsX1_in := goodIn_r _ [8] (by decide +kernel) (by decide +kernel)
set_option maxRecDepth 20000 in
theorem gX1_tint_X1_in : GoodIn wsX1_tint (va_wsS RX1 33 yX1_in wsX1_in) := goodIn_app (goodIn_of _ (by decide +kernel)) ggX1_tint_X1_in
set_option maxRecDepth 20000 in
theorem ggX1_tint_X1_goes : GoodIn wsX1_tint wsX1_goes := goodIn_r _ [12, 13, 14, 15, 16, 17, 18, 19, 20, 21] (by decide +kernel) (by decide +kernel)
set_option maxRecDepth 20000 in
theorem gX1_tint_X1_goes : GoodIn wsX1_tint (wsV RX1 58 RX1 yX1_goes wsX1_goes) := goodIn_app (goodIn_of _ (by decide +kernel)) ggX1_tint_X1_goes
theorem dX1_tint_0 : decode cX1_tint 0 = .ok (.aload_n 0, 1) := by decide +kernel
theorem dX1_tint_1 : decode cX1_tint 1 = .ok (.iload_n 1, 1) := by decide +kernel
theorem dX1_tint_2 : decode cX1_tint 2 = .ok (.invokestatic 54, 3) := by decide +kernel
theorem dX1_tint_5 : decode cX1_tint 5 = .ok (.iload_n 2, 1) := by decide +kernel
theorem dX1_tint_6 : decode cX1_tint 6 = .ok (.iconst 0, 1) := by decide +kernel
theorem dX1_tint_7 : decode cX1_tint 7 = .ok (.bipush 10, 2) := by decide +kernel
theorem dX1_tint_9 : decode cX1_tint 9 = .ok (.invokestatic 33, 3) := by decide +kernel
theorem dX1_tint_12 : decode cX1_tint 12 = .ok (.iconst 1, 1) := by decide +kernel
theorem dX1_tint_13 : decode cX1_tint 13 = .ok (.invokevirtual 58, 3) := by decide +kernel
theorem dX1_tint_16 : decode cX1_tint 16 = .ok (.ifCond .ne 5, 3) := by decide +kernel
theorem dX1_tint_19 : decode cX1_tint 19 = .ok (.iconst 0, 1) := by decide +kernel
theorem dX1_tint_20 : decode cX1_tint 20 = .ok (.ireturn, 1) := by decide +kernel
theorem dX1_tint_21 : decode cX1_tint 21 = .ok (.aload_n 0, 1) := by decide +kernel
theorem dX1_tint_22 : decode cX1_tint 22 = .ok (.getfield 13, 3) := by decide +kernel
theorem dX1_tint_25 : decode cX1_tint 25 = .ok (.iload_n 1, 1) := by decide +kernel
theorem dX1_tint_26 : decode cX1_tint 26 = .ok (.iaload, 1) := by decide +kernel
theorem dX1_tint_27 : decode cX1_tint 27 = .ok (.istore_n 3, 1) := by decide +kernel
theorem dX1_tint_28 : decode cX1_tint 28 = .ok (.aload_n 0, 1) := by decide +kernel
theorem dX1_tint_29 : decode cX1_tint 29 = .ok (.getfield 13, 3) := by decide +kernel
theorem dX1_tint_32 : decode cX1_tint 32 = .ok (.iload_n 1, 1) := by decide +kernel
theorem dX1_tint_33 : decode cX1_tint 33 = .ok (.iload_n 2, 1) := by decide +kernel
theorem dX1_tint_34 : decode cX1_tint 34 = .ok (.iastore, 1) := by decide +kernel
theorem dX1_tint_35 : decode cX1_tint 35 = .ok (.iload_n 3, 1) := by decide +kernel
theorem dX1_tint_36 : decode cX1_tint 36 = .ok (.ireturn, 1) := by decide +kernel
set_option maxRecDepth 20000 in
theorem ggX1_tintOf_X1_isCountry : GoodIn wsX1_tintOf wsX1_isCountry := goodIn_r _ [5, 6, 7, 4, 8] (by decide +kernel) (by decide +kernel)
set_option maxRecDepth 20000 in
theorem gX1_tintOf_X1_isCountry : GoodIn wsX1_tintOf (va_wsS RX1 54 yX1_isCountry wsX1_isCountry) := goodIn_app (goodIn_of _ (by decide +kernel)) ggX1_tintOf_X1_isCountry
set_option maxRecDepth 20000 in
theorem ggX1_tintOf_X1_goes : GoodIn wsX1_tintOf wsX1_goes := goodIn_r _ [12, 13, 14, 15, 16, 17, 18, 19, 20, 21] (by decide +kernel) (by decide +kernel)
set_option maxRecDepth 20000 in
theorem gX1_tintOf_X1_goes : GoodIn wsX1_tintOf (wsV RX1 58 RX1 yX1_goes wsX1_goes) := goodIn_app (goodIn_of _ (by decide +kernel)) ggX1_tintOf_X1_goes
theorem dX1_tintOf_0 : decode cX1_tintOf 0 = .ok (.aload_n 0, 1) := by decide +kernel
theorem dX1_tintOf_1 : decode cX1_tintOf 1 = .ok (.iload_n 1, 1) := by decide +kernel
theorem dX1_tintOf_2 : decode cX1_tintOf 2 = .ok (.invokestatic 54, 3) := by decide +kernel
theorem dX1_tintOf_5 : decode cX1_tintOf 5 = .ok (.iconst 1, 1) := by decide +kernel
theorem dX1_tintOf_6 : decode cX1_tintOf 6 = .ok (.iconst 1, 1) := by decide +kernel
theorem dX1_tintOf_7 : decode cX1_tintOf 7 = .ok (.invokevirtual 58, 3) := by decide +kernel
theorem dX1_tintOf_10 : decode cX1_tintOf 10 = .ok (.ifCond .eq 12, 3) := by decide +kernel
theorem dX1_tintOf_13 : decode cX1_tintOf 13 = .ok (.aload_n 0, 1) := by decide +kernel
theorem dX1_tintOf_14 : decode cX1_tintOf 14 = .ok (.getfield 13, 3) := by decide +kernel
theorem dX1_tintOf_17 : decode cX1_tintOf 17 = .ok (.iload_n 1, 1) := by decide +kernel
theorem dX1_tintOf_18 : decode cX1_tintOf 18 = .ok (.iaload, 1) := by decide +kernel
theorem dX1_tintOf_19 : decode cX1_tintOf 19 = .ok (.goto 4, 3) := by decide +kernel
theorem dX1_tintOf_22 : decode cX1_tintOf 22 = .ok (.iconst 0, 1) := by decide +kernel
theorem dX1_tintOf_23 : decode cX1_tintOf 23 = .ok (.ireturn, 1) := by decide +kernel
set_option maxRecDepth 20000 in
theorem ggX1_inConflict_X1_looks : GoodIn wsX1_inConflict wsX1_looks := goodIn_r _ [7, 8, 9, 10, 1, 11, 12, 6, 13, 14, 15, 16, 17, 18, 19, 20, 21, 22, 23, 24] (by decide +kernel) (by decide +kernel)
set_option maxRecDepth 20000 in
theorem gX1_inConflict_X1_looks : GoodIn wsX1_inConflict (wsV RX1 66 RX1 yX1_looks wsX1_looks) := goodIn_app (goodIn_of _ (by decide +kernel)) ggX1_inConflict_X1_looks
theorem dX1_inConflict_0 : decode cX1_inConflict 0 = .ok (.aload_n 0, 1) := by decide +kernel
theorem dX1_inConflict_1 : decode cX1_inConflict 1 = .ok (.invokevirtual 66, 3) := by decide +kernel
theorem dX1_inConflict_4 : decode cX1_inConflict 4 = .ok (.iconst 0, 1) := by decide +kernel
theorem dX1_inConflict_5 : decode cX1_inConflict 5 = .ok (.istore_n 1, 1) := by decide +kernel
theorem dX1_inConflict_6 : decode cX1_inConflict 6 = .ok (.iconst 0, 1) := by decide +kernel
theorem dX1_inConflict_7 : decode cX1_inConflict 7 = .ok (.istore_n 2, 1) := by decide +kernel
theorem dX1_inConflict_8 : decode cX1_inConflict 8 = .ok (.iload_n 2, 1) := by decide +kernel
theorem dX1_inConflict_9 : decode cX1_inConflict 9 = .ok (.bipush 10, 2) := by decide +kernel
theorem dX1_inConflict_11 : decode cX1_inConflict 11 = .ok (.if_icmp .ge 68, 3) := by decide +kernel
theorem dX1_inConflict_14 : decode cX1_inConflict 14 = .ok (.iconst 0, 1) := by decide +kernel
theorem dX1_inConflict_15 : decode cX1_inConflict 15 = .ok (.istore_n 3, 1) := by decide +kernel
theorem dX1_inConflict_16 : decode cX1_inConflict 16 = .ok (.iload_n 3, 1) := by decide +kernel
theorem dX1_inConflict_17 : decode cX1_inConflict 17 = .ok (.iload_n 2, 1) := by decide +kernel
theorem dX1_inConflict_18 : decode cX1_inConflict 18 = .ok (.if_icmp .ge 55, 3) := by decide +kernel
theorem dX1_inConflict_21 : decode cX1_inConflict 21 = .ok (.iload_n 1, 1) := by decide +kernel
theorem dX1_inConflict_22 : decode cX1_inConflict 22 = .ok (.aload_n 0, 1) := by decide +kernel
theorem dX1_inConflict_23 : decode cX1_inConflict 23 = .ok (.getfield 20, 3) := by decide +kernel
theorem dX1_inConflict_26 : decode cX1_inConflict 26 = .ok (.iload_n 2, 1) := by decide +kernel
theorem dX1_inConflict_27 : decode cX1_inConflict 27 = .ok (.iaload, 1) := by decide +kernel
theorem dX1_inConflict_28 : decode cX1_inConflict 28 = .ok (.iload_n 3, 1) := by decide +kernel
theorem dX1_inConflict_29 : decode cX1_inConflict 29 = .ok (.ishr, 1) := by decide +kernel
theorem dX1_inConflict_30 : decode cX1_inConflict 30 = .ok (.iconst 1, 1) := by decide +kernel
theorem dX1_inConflict_31 : decode cX1_inConflict 31 = .ok (.iand, 1) := by decide +kernel
theorem dX1_inConflict_32 : decode cX1_inConflict 32 = .ok (.iconst 1, 1) := by decide +kernel
theorem dX1_inConflict_33 : decode cX1_inConflict 33 = .ok (.if_icmp .ne 31, 3) := by decide +kernel
theorem dX1_inConflict_36 : decode cX1_inConflict 36 = .ok (.aload_n 0, 1) := by decide +kernel
theorem dX1_inConflict_37 : decode cX1_inConflict 37 = .ok (.getfield 13, 3) := by decide +kernel
theorem dX1_inConflict_40 : decode cX1_inConflict 40 = .ok (.iload_n 2, 1) := by decide +kernel
theorem dX1_inConflict_41 : decode cX1_inConflict 41 = .ok (.iaload, 1) := by decide +kernel
theorem dX1_inConflict_42 : decode cX1_inConflict 42 = .ok (.ifCond .le 22, 3) := by decide +kernel
theorem dX1_inConflict_45 : decode cX1_inConflict 45 = .ok (.aload_n 0, 1) := by decide +kernel
theorem dX1_inConflict_46 : decode cX1_inConflict 46 = .ok (.getfield 13, 3) := by decide +kernel
theorem dX1_inConflict_49 : decode cX1_inConflict 49 = .ok (.iload_n 2, 1) := by decide +kernel
theorem dX1_inConflict_50 : decode cX1_inConflict 50 = .ok (.iaload, 1) := by decide +kernel
theorem dX1_inConflict_51 : decode cX1_inConflict 51 = .ok (.aload_n 0, 1) := by decide +kernel
theorem dX1_inConflict_52 : decode cX1_inConflict 52 = .ok (.getfield 13, 3) := by decide +kernel
theorem dX1_inConflict_55 : decode cX1_inConflict 55 = .ok (.iload_n 3, 1) := by decide +kernel
theorem dX1_inConflict_56 : decode cX1_inConflict 56 = .ok (.iaload, 1) := by decide +kernel
theorem dX1_inConflict_57 : decode cX1_inConflict 57 = .ok (.if_icmp .ne 7, 3) := by decide +kernel
theorem dX1_inConflict_60 : decode cX1_inConflict 60 = .ok (.iconst 1, 1) := by decide +kernel
theorem dX1_inConflict_61 : decode cX1_inConflict 61 = .ok (.goto 4, 3) := by decide +kernel
theorem dX1_inConflict_64 : decode cX1_inConflict 64 = .ok (.iconst 0, 1) := by decide +kernel
theorem dX1_inConflict_65 : decode cX1_inConflict 65 = .ok (.iadd, 1) := by decide +kernel
theorem dX1_inConflict_66 : decode cX1_inConflict 66 = .ok (.istore_n 1, 1) := by decide +kernel
theorem dX1_inConflict_67 : decode cX1_inConflict 67 = .ok (.iinc 3 1, 3) := by decide +kernel
theorem dX1_inConflict_70 : decode cX1_inConflict 70 = .ok (.goto (-54), 3) := by decide +kernel
theorem dX1_inConflict_73 : decode cX1_inConflict 73 = .ok (.iinc 2 1, 3) := by decide +kernel
theorem dX1_inConflict_76 : decode cX1_inConflict 76 = .ok (.goto (-68), 3) := by decide +kernel
theorem dX1_inConflict_79 : decode cX1_inConflict 79 = .ok (.iload_n 1, 1) := by decide +kernel
theorem dX1_inConflict_80 : decode cX1_inConflict 80 = .ok (.ireturn, 1) := by decide +kernel
set_option maxRecDepth 20000 in
theorem ggX1_conflicts_X1_inConflict : GoodIn wsX1_conflicts wsX1_inConflict := goodIn_r _ [5, 6, 7, 8, 9, 10, 4, 11, 12, 13, 14, 15, 16, 17, 18, 19, 20, 26, 27, 28, 29, 30, 31, 32, 33] (by decide +kernel) (by decide +kernel)
set_option maxRecDepth 20000 in
theorem gX1_conflicts_X1_inConflict : GoodIn wsX1_conflicts (wsV RX1 99 RX1 yX1_inConflict wsX1_inConflict) := goodIn_app (goodIn_of _ (by decide +kernel)) ggX1_conflicts_X1_inConflict
set_option maxRecDepth 20000 in
theorem ggX1_conflicts_X1_told : GoodIn wsX1_conflicts wsX1_told := goodIn_r _ [24, 25, 26, 27, 28, 29, 30, 31, 32, 33] (by decide +kernel) (by decide +kernel)
set_option maxRecDepth 20000 in
theorem gX1_conflicts_X1_told : GoodIn wsX1_conflicts (wsV RX1 73 RX1 yX1_told wsX1_told) := goodIn_app (goodIn_of _ (by decide +kernel)) ggX1_conflicts_X1_told
theorem dX1_conflicts_0 : decode cX1_conflicts 0 = .ok (.aload_n 0, 1) := by decide +kernel
theorem dX1_conflicts_1 : decode cX1_conflicts 1 = .ok (.aload_n 0, 1) := by decide +kernel
theorem dX1_conflicts_2 : decode cX1_conflicts 2 = .ok (.invokevirtual 99, 3) := by decide +kernel
theorem dX1_conflicts_5 : decode cX1_conflicts 5 = .ok (.invokevirtual 73, 3) := by decide +kernel
theorem dX1_conflicts_8 : decode cX1_conflicts 8 = .ok (.ireturn, 1) := by decide +kernel
set_option maxRecDepth 20000 in
theorem ggX1_isTinted_X1_inConflict : GoodIn wsX1_isTinted wsX1_inConflict := goodIn_r _ [7, 8, 2, 9, 10, 11, 6, 12, 13, 14, 15, 16, 17, 18, 19, 20, 21, 26, 27, 28, 29, 30, 31, 32, 33] (by decide +kernel) (by decide +kernel)
set_option maxRecDepth 20000 in
theorem gX1_isTinted_X1_inConflict : GoodIn wsX1_isTinted (wsV RX1 99 RX1 yX1_inConflict wsX1_inConflict) := goodIn_app (goodIn_of _ (by decide +kernel)) ggX1_isTinted_X1_inConflict
set_option maxRecDepth 20000 in
theorem ggX1_isTinted_X1_isThere : GoodIn wsX1_isTinted wsX1_isThere := goodIn_r _ [25, 13, 26, 27, 28, 29, 30, 31, 32, 33] (by decide +kernel) (by decide +kernel)
set_option maxRecDepth 20000 in
theorem gX1_isTinted_X1_isThere : GoodIn wsX1_isTinted (wsV RX1 103 RX1 yX1_isThere wsX1_isThere) := goodIn_app (goodIn_of _ (by decide +kernel)) ggX1_isTinted_X1_isThere
theorem dX1_isTinted_0 : decode cX1_isTinted 0 = .ok (.aload_n 0, 1) := by decide +kernel
theorem dX1_isTinted_1 : decode cX1_isTinted 1 = .ok (.iconst 0, 1) := by decide +kernel
theorem dX1_isTinted_2 : decode cX1_isTinted 2 = .ok (.putfield 29, 3) := by decide +kernel
theorem dX1_isTinted_5 : decode cX1_isTinted 5 = .ok (.aload_n 0, 1) := by decide +kernel
theorem dX1_isTinted_6 : decode cX1_isTinted 6 = .ok (.invokevirtual 99, 3) := by decide +kernel
theorem dX1_isTinted_9 : decode cX1_isTinted 9 = .ok (.ifCond .ne 7, 3) := by decide +kernel
theorem dX1_isTinted_12 : decode cX1_isTinted 12 = .ok (.iconst 1, 1) := by decide +kernel
theorem dX1_isTinted_13 : decode cX1_isTinted 13 = .ok (.goto 4, 3) := by decide +kernel
theorem dX1_isTinted_16 : decode cX1_isTinted 16 = .ok (.iconst 0, 1) := by decide +kernel
theorem dX1_isTinted_17 : decode cX1_isTinted 17 = .ok (.istore_n 1, 1) := by decide +kernel
theorem dX1_isTinted_18 : decode cX1_isTinted 18 = .ok (.iconst 0, 1) := by decide +kernel
theorem dX1_isTinted_19 : decode cX1_isTinted 19 = .ok (.istore_n 2, 1) := by decide +kernel
theorem dX1_isTinted_20 : decode cX1_isTinted 20 = .ok (.iload_n 2, 1) := by decide +kernel
theorem dX1_isTinted_21 : decode cX1_isTinted 21 = .ok (.bipush 10, 2) := by decide +kernel
theorem dX1_isTinted_23 : decode cX1_isTinted 23 = .ok (.if_icmp .ge 36, 3) := by decide +kernel
theorem dX1_isTinted_26 : decode cX1_isTinted 26 = .ok (.iload_n 1, 1) := by decide +kernel
theorem dX1_isTinted_27 : decode cX1_isTinted 27 = .ok (.ifCond .eq 24, 3) := by decide +kernel
theorem dX1_isTinted_30 : decode cX1_isTinted 30 = .ok (.aload_n 0, 1) := by decide +kernel
theorem dX1_isTinted_31 : decode cX1_isTinted 31 = .ok (.iload_n 2, 1) := by decide +kernel
theorem dX1_isTinted_32 : decode cX1_isTinted 32 = .ok (.invokevirtual 103, 3) := by decide +kernel
theorem dX1_isTinted_35 : decode cX1_isTinted 35 = .ok (.ifCond .eq 12, 3) := by decide +kernel
theorem dX1_isTinted_38 : decode cX1_isTinted 38 = .ok (.aload_n 0, 1) := by decide +kernel
theorem dX1_isTinted_39 : decode cX1_isTinted 39 = .ok (.getfield 13, 3) := by decide +kernel
theorem dX1_isTinted_42 : decode cX1_isTinted 42 = .ok (.iload_n 2, 1) := by decide +kernel
theorem dX1_isTinted_43 : decode cX1_isTinted 43 = .ok (.iaload, 1) := by decide +kernel
theorem dX1_isTinted_44 : decode cX1_isTinted 44 = .ok (.ifCond .le 7, 3) := by decide +kernel
theorem dX1_isTinted_47 : decode cX1_isTinted 47 = .ok (.iconst 1, 1) := by decide +kernel
theorem dX1_isTinted_48 : decode cX1_isTinted 48 = .ok (.goto 4, 3) := by decide +kernel
theorem dX1_isTinted_51 : decode cX1_isTinted 51 = .ok (.iconst 0, 1) := by decide +kernel
theorem dX1_isTinted_52 : decode cX1_isTinted 52 = .ok (.istore_n 1, 1) := by decide +kernel
theorem dX1_isTinted_53 : decode cX1_isTinted 53 = .ok (.iinc 2 1, 3) := by decide +kernel
theorem dX1_isTinted_56 : decode cX1_isTinted 56 = .ok (.goto (-36), 3) := by decide +kernel
theorem dX1_isTinted_59 : decode cX1_isTinted 59 = .ok (.iload_n 1, 1) := by decide +kernel
theorem dX1_isTinted_60 : decode cX1_isTinted 60 = .ok (.ireturn, 1) := by decide +kernel
theorem dX1_least_0 : decode cX1_least 0 = .ok (.iconst 1, 1) := by decide +kernel
theorem dX1_least_1 : decode cX1_least 1 = .ok (.istore_n 2, 1) := by decide +kernel
theorem dX1_least_2 : decode cX1_least 2 = .ok (.iconst 0, 1) := by decide +kernel
theorem dX1_least_3 : decode cX1_least 3 = .ok (.istore_n 3, 1) := by decide +kernel
theorem dX1_least_4 : decode cX1_least 4 = .ok (.iload_n 3, 1) := by decide +kernel
theorem dX1_least_5 : decode cX1_least 5 = .ok (.bipush 10, 2) := by decide +kernel
theorem dX1_least_7 : decode cX1_least 7 = .ok (.if_icmp .ge 58, 3) := by decide +kernel
theorem dX1_least_10 : decode cX1_least 10 = .ok (.iload_n 1, 1) := by decide +kernel
theorem dX1_least_11 : decode cX1_least 11 = .ok (.iload_n 3, 1) := by decide +kernel
theorem dX1_least_12 : decode cX1_least 12 = .ok (.ishr, 1) := by decide +kernel
theorem dX1_least_13 : decode cX1_least 13 = .ok (.iconst 1, 1) := by decide +kernel
theorem dX1_least_14 : decode cX1_least 14 = .ok (.iand, 1) := by decide +kernel
theorem dX1_least_15 : decode cX1_least 15 = .ok (.iconst 1, 1) := by decide +kernel
theorem dX1_least_16 : decode cX1_least 16 = .ok (.if_icmp .ne 17, 3) := by decide +kernel
theorem dX1_least_19 : decode cX1_least 19 = .ok (.aload_n 0, 1) := by decide +kernel
theorem dX1_least_20 : decode cX1_least 20 = .ok (.getfield 13, 3) := by decide +kernel
theorem dX1_least_23 : decode cX1_least 23 = .ok (.iload_n 3, 1) := by decide +kernel
theorem dX1_least_24 : decode cX1_least 24 = .ok (.iaload, 1) := by decide +kernel
theorem dX1_least_25 : decode cX1_least 25 = .ok (.iload_n 2, 1) := by decide +kernel
theorem dX1_least_26 : decode cX1_least 26 = .ok (.if_icmp .ne 7, 3) := by decide +kernel
theorem dX1_least_29 : decode cX1_least 29 = .ok (.iconst 1, 1) := by decide +kernel
theorem dX1_least_30 : decode cX1_least 30 = .ok (.goto 4, 3) := by decide +kernel
theorem dX1_least_33 : decode cX1_least 33 = .ok (.iconst 0, 1) := by decide +kernel
theorem dX1_least_34 : decode cX1_least 34 = .ok (.istore 4, 2) := by decide +kernel
theorem dX1_least_36 : decode cX1_least 36 = .ok (.iload_n 2, 1) := by decide +kernel
theorem dX1_least_37 : decode cX1_least 37 = .ok (.iload 4, 2) := by decide +kernel
theorem dX1_least_39 : decode cX1_least 39 = .ok (.ifCond .eq 7, 3) := by decide +kernel
theorem dX1_least_42 : decode cX1_least 42 = .ok (.iconst 1, 1) := by decide +kernel
theorem dX1_least_43 : decode cX1_least 43 = .ok (.goto 4, 3) := by decide +kernel
theorem dX1_least_46 : decode cX1_least 46 = .ok (.iconst 0, 1) := by decide +kernel
theorem dX1_least_47 : decode cX1_least 47 = .ok (.iadd, 1) := by decide +kernel
theorem dX1_least_48 : decode cX1_least 48 = .ok (.istore_n 2, 1) := by decide +kernel
theorem dX1_least_49 : decode cX1_least 49 = .ok (.iload 4, 2) := by decide +kernel
theorem dX1_least_51 : decode cX1_least 51 = .ok (.ifCond .eq 7, 3) := by decide +kernel
theorem dX1_least_54 : decode cX1_least 54 = .ok (.iconst 0, 1) := by decide +kernel
theorem dX1_least_55 : decode cX1_least 55 = .ok (.goto 6, 3) := by decide +kernel
theorem dX1_least_58 : decode cX1_least 58 = .ok (.iload_n 3, 1) := by decide +kernel
theorem dX1_least_59 : decode cX1_least 59 = .ok (.iconst 1, 1) := by decide +kernel
theorem dX1_least_60 : decode cX1_least 60 = .ok (.iadd, 1) := by decide +kernel
theorem dX1_least_61 : decode cX1_least 61 = .ok (.istore_n 3, 1) := by decide +kernel
theorem dX1_least_62 : decode cX1_least 62 = .ok (.goto (-58), 3) := by decide +kernel
theorem dX1_least_65 : decode cX1_least 65 = .ok (.iload_n 2, 1) := by decide +kernel
theorem dX1_least_66 : decode cX1_least 66 = .ok (.ireturn, 1) := by decide +kernel
set_option maxRecDepth 20000 in
theorem ggX1_leastFree_X1_looks : GoodIn wsX1_leastFree wsX1_looks := goodIn_r _ [6, 7, 8, 9, 1, 10, 11, 5, 12, 13, 14, 15, 32, 33, 34, 35, 36, 37, 38, 39] (by decide +kernel) (by decide +kernel)
set_option maxRecDepth 20000 in
theorem gX1_leastFree_X1_looks : GoodIn wsX1_leastFree (wsV RX1 66 RX1 yX1_looks wsX1_looks) := goodIn_app (goodIn_of _ (by decide +kernel)) ggX1_leastFree_X1_looks
set_option maxRecDepth 20000 in
theorem ggX1_leastFree_X1_isCountry : GoodIn wsX1_leastFree wsX1_isCountry := goodIn_r _ [18, 19, 20, 5, 21] (by decide +kernel) (by decide +kernel)
set_option maxRecDepth 20000 in
theorem gX1_leastFree_X1_isCountry : GoodIn wsX1_leastFree (va_wsS RX1 54 yX1_isCountry wsX1_isCountry) := goodIn_app (goodIn_of _ (by decide +kernel)) ggX1_leastFree_X1_isCountry
set_option maxRecDepth 20000 in
theorem ggX1_leastFree_X1_goes : GoodIn wsX1_leastFree wsX1_goes := goodIn_r _ [25, 26, 32, 33, 34, 35, 36, 37, 38, 39] (by decide +kernel) (by decide +kernel)
set_option maxRecDepth 20000 in
theorem gX1_leastFree_X1_goes : GoodIn wsX1_leastFree (wsV RX1 58 RX1 yX1_goes wsX1_goes) := goodIn_app (goodIn_of _ (by decide +kernel)) ggX1_leastFree_X1_goes
set_option maxRecDepth 20000 in
theorem ggX1_leastFree_X1_least : GoodIn wsX1_leastFree wsX1_least := goodIn_r _ [30, 31, 32, 33, 34, 35, 36, 37, 38, 39] (by decide +kernel) (by decide +kernel)
set_option maxRecDepth 20000 in
theorem gX1_leastFree_X1_least : GoodIn wsX1_leastFree (wsV RX1 106 RX1 yX1_least wsX1_least) := goodIn_app (goodIn_of _ (by decide +kernel)) ggX1_leastFree_X1_least
theorem dX1_leastFree_0 : decode cX1_leastFree 0 = .ok (.aload_n 0, 1) := by decide +kernel
theorem dX1_leastFree_1 : decode cX1_leastFree 1 = .ok (.invokevirtual 66, 3) := by decide +kernel
theorem dX1_leastFree_4 : decode cX1_leastFree 4 = .ok (.aload_n 0, 1) := by decide +kernel
theorem dX1_leastFree_5 : decode cX1_leastFree 5 = .ok (.iload_n 1, 1) := by decide +kernel
theorem dX1_leastFree_6 : decode cX1_leastFree 6 = .ok (.invokestatic 54, 3) := by decide +kernel
theorem dX1_leastFree_9 : decode cX1_leastFree 9 = .ok (.iconst 1, 1) := by decide +kernel
theorem dX1_leastFree_10 : decode cX1_leastFree 10 = .ok (.iconst 1, 1) := by decide +kernel
theorem dX1_leastFree_11 : decode cX1_leastFree 11 = .ok (.invokevirtual 58, 3) := by decide +kernel
theorem dX1_leastFree_14 : decode cX1_leastFree 14 = .ok (.ifCond .eq 16, 3) := by decide +kernel
theorem dX1_leastFree_17 : decode cX1_leastFree 17 = .ok (.aload_n 0, 1) := by decide +kernel
theorem dX1_leastFree_18 : decode cX1_leastFree 18 = .ok (.aload_n 0, 1) := by decide +kernel
theorem dX1_leastFree_19 : decode cX1_leastFree 19 = .ok (.getfield 20, 3) := by decide +kernel
theorem dX1_leastFree_22 : decode cX1_leastFree 22 = .ok (.iload_n 1, 1) := by decide +kernel
theorem dX1_leastFree_23 : decode cX1_leastFree 23 = .ok (.iaload, 1) := by decide +kernel
theorem dX1_leastFree_24 : decode cX1_leastFree 24 = .ok (.invokevirtual 106, 3) := by decide +kernel
theorem dX1_leastFree_27 : decode cX1_leastFree 27 = .ok (.goto 4, 3) := by decide +kernel
theorem dX1_leastFree_30 : decode cX1_leastFree 30 = .ok (.iconst 0, 1) := by decide +kernel
theorem dX1_leastFree_31 : decode cX1_leastFree 31 = .ok (.ireturn, 1) := by decide +kernel
set_option maxRecDepth 20000 in
theorem ggX1_isChain_X1_looks : GoodIn wsX1_isChain wsX1_looks := goodIn_r _ [6, 7, 8, 9, 10, 11, 12, 5, 13, 14, 15, 16, 32, 33, 34, 35, 36, 37, 38, 39] (by decide +kernel) (by decide +kernel)
set_option maxRecDepth 20000 in
theorem gX1_isChain_X1_looks : GoodIn wsX1_isChain (wsV RX1 66 RX1 yX1_looks wsX1_looks) := goodIn_app (goodIn_of _ (by decide +kernel)) ggX1_isChain_X1_looks
set_option maxRecDepth 20000 in
theorem ggX1_isChain_X1_isCountry : GoodIn wsX1_isChain wsX1_isCountry := goodIn_r _ [19, 20, 21, 5, 22] (by decide +kernel) (by decide +kernel)
set_option maxRecDepth 20000 in
theorem gX1_isChain_X1_isCountry : GoodIn wsX1_isChain (va_wsS RX1 54 yX1_isCountry wsX1_isCountry) := goodIn_app (goodIn_of _ (by decide +kernel)) ggX1_isChain_X1_isCountry
set_option maxRecDepth 20000 in
theorem ggX1_isChain_X1_in : GoodIn wsX1_isChain wsX1_in := goodIn_r _ [22] (by decide +kernel) (by decide +kernel)
set_option maxRecDepth 20000 in
theorem gX1_isChain_X1_in : GoodIn wsX1_isChain (va_wsS RX1 33 yX1_in wsX1_in) := goodIn_app (goodIn_of _ (by decide +kernel)) ggX1_isChain_X1_in
set_option maxRecDepth 20000 in
theorem ggX1_isChain_X1_isThere : GoodIn wsX1_isChain wsX1_isThere := goodIn_r _ [26, 7, 32, 33, 34, 35, 36, 37, 38, 39] (by decide +kernel) (by decide +kernel)
set_option maxRecDepth 20000 in
theorem gX1_isChain_X1_isThere : GoodIn wsX1_isChain (wsV RX1 103 RX1 yX1_isThere wsX1_isThere) := goodIn_app (goodIn_of _ (by decide +kernel)) ggX1_isChain_X1_isThere
set_option maxRecDepth 20000 in
theorem ggX1_isChain_X1_goes : GoodIn wsX1_isChain wsX1_goes := goodIn_r _ [30, 31, 32, 33, 34, 35, 36, 37, 38, 39] (by decide +kernel) (by decide +kernel)
set_option maxRecDepth 20000 in
theorem gX1_isChain_X1_goes : GoodIn wsX1_isChain (wsV RX1 58 RX1 yX1_goes wsX1_goes) := goodIn_app (goodIn_of _ (by decide +kernel)) ggX1_isChain_X1_goes
theorem dX1_isChain_0 : decode cX1_isChain 0 = .ok (.aload_n 0, 1) := by decide +kernel
theorem dX1_isChain_1 : decode cX1_isChain 1 = .ok (.invokevirtual 66, 3) := by decide +kernel
theorem dX1_isChain_4 : decode cX1_isChain 4 = .ok (.iload_n 1, 1) := by decide +kernel
theorem dX1_isChain_5 : decode cX1_isChain 5 = .ok (.invokestatic 54, 3) := by decide +kernel
theorem dX1_isChain_8 : decode cX1_isChain 8 = .ok (.istore_n 3, 1) := by decide +kernel
theorem dX1_isChain_9 : decode cX1_isChain 9 = .ok (.aload_n 0, 1) := by decide +kernel
theorem dX1_isChain_10 : decode cX1_isChain 10 = .ok (.iload_n 3, 1) := by decide +kernel
theorem dX1_isChain_11 : decode cX1_isChain 11 = .ok (.iload_n 2, 1) := by decide +kernel
theorem dX1_isChain_12 : decode cX1_isChain 12 = .ok (.iconst 1, 1) := by decide +kernel
theorem dX1_isChain_13 : decode cX1_isChain 13 = .ok (.bipush 10, 2) := by decide +kernel
theorem dX1_isChain_15 : decode cX1_isChain 15 = .ok (.invokestatic 33, 3) := by decide +kernel
theorem dX1_isChain_18 : decode cX1_isChain 18 = .ok (.iload_n 3, 1) := by decide +kernel
theorem dX1_isChain_19 : decode cX1_isChain 19 = .ok (.ifCond .eq 24, 3) := by decide +kernel
theorem dX1_isChain_22 : decode cX1_isChain 22 = .ok (.aload_n 0, 1) := by decide +kernel
theorem dX1_isChain_23 : decode cX1_isChain 23 = .ok (.iload_n 1, 1) := by decide +kernel
theorem dX1_isChain_24 : decode cX1_isChain 24 = .ok (.invokevirtual 103, 3) := by decide +kernel
theorem dX1_isChain_27 : decode cX1_isChain 27 = .ok (.ifCond .eq 16, 3) := by decide +kernel
theorem dX1_isChain_30 : decode cX1_isChain 30 = .ok (.aload_n 0, 1) := by decide +kernel
theorem dX1_isChain_31 : decode cX1_isChain 31 = .ok (.getfield 13, 3) := by decide +kernel
theorem dX1_isChain_34 : decode cX1_isChain 34 = .ok (.iload_n 1, 1) := by decide +kernel
theorem dX1_isChain_35 : decode cX1_isChain 35 = .ok (.iaload, 1) := by decide +kernel
theorem dX1_isChain_36 : decode cX1_isChain 36 = .ok (.ifCond .le 7, 3) := by decide +kernel
theorem dX1_isChain_39 : decode cX1_isChain 39 = .ok (.iconst 1, 1) := by decide +kernel
theorem dX1_isChain_40 : decode cX1_isChain 40 = .ok (.goto 4, 3) := by decide +kernel
theorem dX1_isChain_43 : decode cX1_isChain 43 = .ok (.iconst 0, 1) := by decide +kernel
theorem dX1_isChain_44 : decode cX1_isChain 44 = .ok (.invokevirtual 58, 3) := by decide +kernel
theorem dX1_isChain_47 : decode cX1_isChain 47 = .ok (.ireturn, 1) := by decide +kernel
set_option maxRecDepth 20000 in
theorem ggX1_links_X1_isThere : GoodIn wsX1_links wsX1_isThere := goodIn_r _ [7, 8, 9, 10, 11, 12, 13, 14, 15, 16] (by decide +kernel) (by decide +kernel)
set_option maxRecDepth 20000 in
theorem gX1_links_X1_isThere : GoodIn wsX1_links (wsV RX1 103 RX1 yX1_isThere wsX1_isThere) := goodIn_app (goodIn_of _ (by decide +kernel)) ggX1_links_X1_isThere
theorem dX1_links_0 : decode cX1_links 0 = .ok (.iconst 0, 1) := by decide +kernel
theorem dX1_links_1 : decode cX1_links 1 = .ok (.istore_n 3, 1) := by decide +kernel
theorem dX1_links_2 : decode cX1_links 2 = .ok (.iconst 0, 1) := by decide +kernel
theorem dX1_links_3 : decode cX1_links 3 = .ok (.istore 4, 2) := by decide +kernel
theorem dX1_links_5 : decode cX1_links 5 = .ok (.iload 4, 2) := by decide +kernel
theorem dX1_links_7 : decode cX1_links 7 = .ok (.bipush 10, 2) := by decide +kernel
theorem dX1_links_9 : decode cX1_links 9 = .ok (.if_icmp .ge 56, 3) := by decide +kernel
theorem dX1_links_12 : decode cX1_links 12 = .ok (.iload_n 3, 1) := by decide +kernel
theorem dX1_links_13 : decode cX1_links 13 = .ok (.aload_n 0, 1) := by decide +kernel
theorem dX1_links_14 : decode cX1_links 14 = .ok (.iload 4, 2) := by decide +kernel
theorem dX1_links_16 : decode cX1_links 16 = .ok (.invokevirtual 103, 3) := by decide +kernel
theorem dX1_links_19 : decode cX1_links 19 = .ok (.ifCond .eq 37, 3) := by decide +kernel
theorem dX1_links_22 : decode cX1_links 22 = .ok (.aload_n 0, 1) := by decide +kernel
theorem dX1_links_23 : decode cX1_links 23 = .ok (.getfield 13, 3) := by decide +kernel
theorem dX1_links_26 : decode cX1_links 26 = .ok (.iload 4, 2) := by decide +kernel
theorem dX1_links_28 : decode cX1_links 28 = .ok (.iaload, 1) := by decide +kernel
theorem dX1_links_29 : decode cX1_links 29 = .ok (.iload_n 2, 1) := by decide +kernel
theorem dX1_links_30 : decode cX1_links 30 = .ok (.if_icmp .eq 19, 3) := by decide +kernel
theorem dX1_links_33 : decode cX1_links 33 = .ok (.aload_n 0, 1) := by decide +kernel
theorem dX1_links_34 : decode cX1_links 34 = .ok (.getfield 13, 3) := by decide +kernel
theorem dX1_links_37 : decode cX1_links 37 = .ok (.iload 4, 2) := by decide +kernel
theorem dX1_links_39 : decode cX1_links 39 = .ok (.iaload, 1) := by decide +kernel
theorem dX1_links_40 : decode cX1_links 40 = .ok (.aload_n 0, 1) := by decide +kernel
theorem dX1_links_41 : decode cX1_links 41 = .ok (.getfield 13, 3) := by decide +kernel
theorem dX1_links_44 : decode cX1_links 44 = .ok (.iload_n 1, 1) := by decide +kernel
theorem dX1_links_45 : decode cX1_links 45 = .ok (.iaload, 1) := by decide +kernel
theorem dX1_links_46 : decode cX1_links 46 = .ok (.if_icmp .ne 10, 3) := by decide +kernel
theorem dX1_links_49 : decode cX1_links 49 = .ok (.iconst 1, 1) := by decide +kernel
theorem dX1_links_50 : decode cX1_links 50 = .ok (.iload 4, 2) := by decide +kernel
theorem dX1_links_52 : decode cX1_links 52 = .ok (.ishl, 1) := by decide +kernel
theorem dX1_links_53 : decode cX1_links 53 = .ok (.goto 4, 3) := by decide +kernel
theorem dX1_links_56 : decode cX1_links 56 = .ok (.iconst 0, 1) := by decide +kernel
theorem dX1_links_57 : decode cX1_links 57 = .ok (.ior, 1) := by decide +kernel
theorem dX1_links_58 : decode cX1_links 58 = .ok (.istore_n 3, 1) := by decide +kernel
theorem dX1_links_59 : decode cX1_links 59 = .ok (.iinc 4 1, 3) := by decide +kernel
theorem dX1_links_62 : decode cX1_links 62 = .ok (.goto (-57), 3) := by decide +kernel
theorem dX1_links_65 : decode cX1_links 65 = .ok (.iconst 0, 1) := by decide +kernel
theorem dX1_links_66 : decode cX1_links 66 = .ok (.istore 4, 2) := by decide +kernel
theorem dX1_links_68 : decode cX1_links 68 = .ok (.iconst 1, 1) := by decide +kernel
theorem dX1_links_69 : decode cX1_links 69 = .ok (.iload_n 1, 1) := by decide +kernel
theorem dX1_links_70 : decode cX1_links 70 = .ok (.ishl, 1) := by decide +kernel
theorem dX1_links_71 : decode cX1_links 71 = .ok (.istore 5, 2) := by decide +kernel
theorem dX1_links_73 : decode cX1_links 73 = .ok (.iload 5, 2) := by decide +kernel
theorem dX1_links_75 : decode cX1_links 75 = .ok (.iload 4, 2) := by decide +kernel
theorem dX1_links_77 : decode cX1_links 77 = .ok (.if_icmp .eq 55, 3) := by decide +kernel
theorem dX1_links_80 : decode cX1_links 80 = .ok (.iload 5, 2) := by decide +kernel
theorem dX1_links_82 : decode cX1_links 82 = .ok (.istore 4, 2) := by decide +kernel
theorem dX1_links_84 : decode cX1_links 84 = .ok (.iconst 0, 1) := by decide +kernel
theorem dX1_links_85 : decode cX1_links 85 = .ok (.istore 6, 2) := by decide +kernel
theorem dX1_links_87 : decode cX1_links 87 = .ok (.iload 6, 2) := by decide +kernel
theorem dX1_links_89 : decode cX1_links 89 = .ok (.bipush 10, 2) := by decide +kernel
theorem dX1_links_91 : decode cX1_links 91 = .ok (.if_icmp .ge 38, 3) := by decide +kernel
theorem dX1_links_94 : decode cX1_links 94 = .ok (.iload 5, 2) := by decide +kernel
theorem dX1_links_96 : decode cX1_links 96 = .ok (.iload 4, 2) := by decide +kernel
theorem dX1_links_98 : decode cX1_links 98 = .ok (.iload 6, 2) := by decide +kernel
theorem dX1_links_100 : decode cX1_links 100 = .ok (.ishr, 1) := by decide +kernel
theorem dX1_links_101 : decode cX1_links 101 = .ok (.iconst 1, 1) := by decide +kernel
theorem dX1_links_102 : decode cX1_links 102 = .ok (.iand, 1) := by decide +kernel
theorem dX1_links_103 : decode cX1_links 103 = .ok (.iconst 1, 1) := by decide +kernel
theorem dX1_links_104 : decode cX1_links 104 = .ok (.if_icmp .ne 15, 3) := by decide +kernel
theorem dX1_links_107 : decode cX1_links 107 = .ok (.aload_n 0, 1) := by decide +kernel
theorem dX1_links_108 : decode cX1_links 108 = .ok (.getfield 20, 3) := by decide +kernel
theorem dX1_links_111 : decode cX1_links 111 = .ok (.iload 6, 2) := by decide +kernel
theorem dX1_links_113 : decode cX1_links 113 = .ok (.iaload, 1) := by decide +kernel
theorem dX1_links_114 : decode cX1_links 114 = .ok (.iload_n 3, 1) := by decide +kernel
theorem dX1_links_115 : decode cX1_links 115 = .ok (.iand, 1) := by decide +kernel
theorem dX1_links_116 : decode cX1_links 116 = .ok (.goto 4, 3) := by decide +kernel
theorem dX1_links_119 : decode cX1_links 119 = .ok (.iconst 0, 1) := by decide +kernel
theorem dX1_links_120 : decode cX1_links 120 = .ok (.ior, 1) := by decide +kernel
theorem dX1_links_121 : decode cX1_links 121 = .ok (.istore 5, 2) := by decide +kernel
theorem dX1_links_123 : decode cX1_links 123 = .ok (.iinc 6 1, 3) := by decide +kernel
theorem dX1_links_126 : decode cX1_links 126 = .ok (.goto (-39), 3) := by decide +kernel
theorem dX1_links_129 : decode cX1_links 129 = .ok (.goto (-56), 3) := by decide +kernel
theorem dX1_links_132 : decode cX1_links 132 = .ok (.iload 5, 2) := by decide +kernel
theorem dX1_links_134 : decode cX1_links 134 = .ok (.ireturn, 1) := by decide +kernel
set_option maxRecDepth 20000 in
theorem ggX1_chain_X1_isChain : GoodIn wsX1_chain wsX1_isChain := goodIn_r _ [5, 6, 7, 8, 9, 4, 10, 11, 12, 13, 14, 15, 16, 17, 18, 19, 20, 21, 22, 23, 24, 25, 26, 27, 28, 29, 30, 31, 32, 33, 34, 35, 43, 44, 45, 46, 47, 48, 49, 50] (by decide +kernel) (by decide +kernel)
set_option maxRecDepth 20000 in
theorem gX1_chain_X1_isChain : GoodIn wsX1_chain (wsV RX1 109 RX1 yX1_isChain wsX1_isChain) := goodIn_app (goodIn_of _ (by decide +kernel)) ggX1_chain_X1_isChain
set_option maxRecDepth 20000 in
theorem ggX1_chain_X1_links : GoodIn wsX1_chain wsX1_links := goodIn_r _ [39, 6, 14, 27, 28, 29, 4, 30, 11, 43, 44, 45, 46, 47, 48, 49, 50] (by decide +kernel) (by decide +kernel)
set_option maxRecDepth 20000 in
theorem gX1_chain_X1_links : GoodIn wsX1_chain (wsV RX1 112 RX1 yX1_links wsX1_links) := goodIn_app (goodIn_of _ (by decide +kernel)) ggX1_chain_X1_links
set_option maxRecDepth 20000 in
theorem ggX1_chain_X1_bits : GoodIn wsX1_chain wsX1_bits := goodIn_r _ [42] (by decide +kernel) (by decide +kernel)
set_option maxRecDepth 20000 in
theorem gX1_chain_X1_bits : GoodIn wsX1_chain (va_wsS RX1 69 yX1_bits wsX1_bits) := goodIn_app (goodIn_of _ (by decide +kernel)) ggX1_chain_X1_bits
theorem dX1_chain_0 : decode cX1_chain 0 = .ok (.aload_n 0, 1) := by decide +kernel
theorem dX1_chain_1 : decode cX1_chain 1 = .ok (.iload_n 1, 1) := by decide +kernel
theorem dX1_chain_2 : decode cX1_chain 2 = .ok (.iload_n 2, 1) := by decide +kernel
theorem dX1_chain_3 : decode cX1_chain 3 = .ok (.invokevirtual 109, 3) := by decide +kernel
theorem dX1_chain_6 : decode cX1_chain 6 = .ok (.ifCond .eq 16, 3) := by decide +kernel
theorem dX1_chain_9 : decode cX1_chain 9 = .ok (.aload_n 0, 1) := by decide +kernel
theorem dX1_chain_10 : decode cX1_chain 10 = .ok (.iload_n 1, 1) := by decide +kernel
theorem dX1_chain_11 : decode cX1_chain 11 = .ok (.iload_n 2, 1) := by decide +kernel
theorem dX1_chain_12 : decode cX1_chain 12 = .ok (.invokevirtual 112, 3) := by decide +kernel
theorem dX1_chain_15 : decode cX1_chain 15 = .ok (.i2l, 1) := by decide +kernel
theorem dX1_chain_16 : decode cX1_chain 16 = .ok (.invokestatic 69, 3) := by decide +kernel
theorem dX1_chain_19 : decode cX1_chain 19 = .ok (.goto 4, 3) := by decide +kernel
theorem dX1_chain_22 : decode cX1_chain 22 = .ok (.iconst 0, 1) := by decide +kernel
theorem dX1_chain_23 : decode cX1_chain 23 = .ok (.ireturn, 1) := by decide +kernel
set_option maxRecDepth 20000 in
theorem ggX1_exchange_X1_isChain : GoodIn wsX1_exchange wsX1_isChain := goodIn_r _ [6, 1, 7, 8, 9, 5, 10, 11, 12, 13, 14, 15, 16, 17, 18, 19, 20, 21, 22, 23, 24, 25, 26, 27, 28, 29, 30, 31, 32, 33, 34, 35, 43, 44, 45, 46, 47, 48, 49, 50] (by decide +kernel) (by decide +kernel)
set_option maxRecDepth 20000 in
theorem gX1_exchange_X1_isChain : GoodIn wsX1_exchange (wsV RX1 109 RX1 yX1_isChain wsX1_isChain) := goodIn_app (goodIn_of _ (by decide +kernel)) ggX1_exchange_X1_isChain
set_option maxRecDepth 20000 in
theorem ggX1_exchange_X1_links : GoodIn wsX1_exchange wsX1_links := goodIn_r _ [39, 1, 14, 27, 28, 29, 5, 30, 11, 43, 44, 45, 46, 47, 48, 49, 50] (by decide +kernel) (by decide +kernel)
set_option maxRecDepth 20000 in
theorem gX1_exchange_X1_links : GoodIn wsX1_exchange (wsV RX1 112 RX1 yX1_links wsX1_links) := goodIn_app (goodIn_of _ (by decide +kernel)) ggX1_exchange_X1_links
set_option maxRecDepth 20000 in
theorem ggX1_exchange_X1_bits : GoodIn wsX1_exchange wsX1_bits := goodIn_r _ [42] (by decide +kernel) (by decide +kernel)
set_option maxRecDepth 20000 in
theorem gX1_exchange_X1_bits : GoodIn wsX1_exchange (va_wsS RX1 69 yX1_bits wsX1_bits) := goodIn_app (goodIn_of _ (by decide +kernel)) ggX1_exchange_X1_bits
theorem dX1_exchange_0 : decode cX1_exchange 0 = .ok (.aload_n 0, 1) := by decide +kernel
theorem dX1_exchange_1 : decode cX1_exchange 1 = .ok (.iload_n 1, 1) := by decide +kernel
theorem dX1_exchange_2 : decode cX1_exchange 2 = .ok (.iload_n 2, 1) := by decide +kernel
theorem dX1_exchange_3 : decode cX1_exchange 3 = .ok (.invokevirtual 109, 3) := by decide +kernel
theorem dX1_exchange_6 : decode cX1_exchange 6 = .ok (.ifCond .ne 5, 3) := by decide +kernel
theorem dX1_exchange_9 : decode cX1_exchange 9 = .ok (.iconst 0, 1) := by decide +kernel
theorem dX1_exchange_10 : decode cX1_exchange 10 = .ok (.ireturn, 1) := by decide +kernel
theorem dX1_exchange_11 : decode cX1_exchange 11 = .ok (.aload_n 0, 1) := by decide +kernel
theorem dX1_exchange_12 : decode cX1_exchange 12 = .ok (.iload_n 1, 1) := by decide +kernel
theorem dX1_exchange_13 : decode cX1_exchange 13 = .ok (.iload_n 2, 1) := by decide +kernel
theorem dX1_exchange_14 : decode cX1_exchange 14 = .ok (.invokevirtual 112, 3) := by decide +kernel
theorem dX1_exchange_17 : decode cX1_exchange 17 = .ok (.istore_n 3, 1) := by decide +kernel
theorem dX1_exchange_18 : decode cX1_exchange 18 = .ok (.aload_n 0, 1) := by decide +kernel
theorem dX1_exchange_19 : decode cX1_exchange 19 = .ok (.getfield 13, 3) := by decide +kernel
theorem dX1_exchange_22 : decode cX1_exchange 22 = .ok (.iload_n 1, 1) := by decide +kernel
theorem dX1_exchange_23 : decode cX1_exchange 23 = .ok (.iaload, 1) := by decide +kernel
theorem dX1_exchange_24 : decode cX1_exchange 24 = .ok (.istore 4, 2) := by decide +kernel
theorem dX1_exchange_26 : decode cX1_exchange 26 = .ok (.iconst 0, 1) := by decide +kernel
theorem dX1_exchange_27 : decode cX1_exchange 27 = .ok (.istore 5, 2) := by decide +kernel
theorem dX1_exchange_29 : decode cX1_exchange 29 = .ok (.iload 5, 2) := by decide +kernel
theorem dX1_exchange_31 : decode cX1_exchange 31 = .ok (.bipush 10, 2) := by decide +kernel
theorem dX1_exchange_33 : decode cX1_exchange 33 = .ok (.if_icmp .ge 44, 3) := by decide +kernel
theorem dX1_exchange_36 : decode cX1_exchange 36 = .ok (.iload_n 3, 1) := by decide +kernel
theorem dX1_exchange_37 : decode cX1_exchange 37 = .ok (.iload 5, 2) := by decide +kernel
theorem dX1_exchange_39 : decode cX1_exchange 39 = .ok (.ishr, 1) := by decide +kernel
theorem dX1_exchange_40 : decode cX1_exchange 40 = .ok (.iconst 1, 1) := by decide +kernel
theorem dX1_exchange_41 : decode cX1_exchange 41 = .ok (.iand, 1) := by decide +kernel
theorem dX1_exchange_42 : decode cX1_exchange 42 = .ok (.iconst 1, 1) := by decide +kernel
theorem dX1_exchange_43 : decode cX1_exchange 43 = .ok (.if_icmp .ne 28, 3) := by decide +kernel
theorem dX1_exchange_46 : decode cX1_exchange 46 = .ok (.aload_n 0, 1) := by decide +kernel
theorem dX1_exchange_47 : decode cX1_exchange 47 = .ok (.getfield 13, 3) := by decide +kernel
theorem dX1_exchange_50 : decode cX1_exchange 50 = .ok (.iload 5, 2) := by decide +kernel
theorem dX1_exchange_52 : decode cX1_exchange 52 = .ok (.aload_n 0, 1) := by decide +kernel
theorem dX1_exchange_53 : decode cX1_exchange 53 = .ok (.getfield 13, 3) := by decide +kernel
theorem dX1_exchange_56 : decode cX1_exchange 56 = .ok (.iload 5, 2) := by decide +kernel
theorem dX1_exchange_58 : decode cX1_exchange 58 = .ok (.iaload, 1) := by decide +kernel
theorem dX1_exchange_59 : decode cX1_exchange 59 = .ok (.iload 4, 2) := by decide +kernel
theorem dX1_exchange_61 : decode cX1_exchange 61 = .ok (.if_icmp .ne 7, 3) := by decide +kernel
theorem dX1_exchange_64 : decode cX1_exchange 64 = .ok (.iload_n 2, 1) := by decide +kernel
theorem dX1_exchange_65 : decode cX1_exchange 65 = .ok (.goto 5, 3) := by decide +kernel
theorem dX1_exchange_68 : decode cX1_exchange 68 = .ok (.iload 4, 2) := by decide +kernel
theorem dX1_exchange_70 : decode cX1_exchange 70 = .ok (.iastore, 1) := by decide +kernel
theorem dX1_exchange_71 : decode cX1_exchange 71 = .ok (.iinc 5 1, 3) := by decide +kernel
theorem dX1_exchange_74 : decode cX1_exchange 74 = .ok (.goto (-45), 3) := by decide +kernel
theorem dX1_exchange_77 : decode cX1_exchange 77 = .ok (.iload 4, 2) := by decide +kernel
theorem dX1_exchange_79 : decode cX1_exchange 79 = .ok (.iload_n 2, 1) := by decide +kernel
theorem dX1_exchange_80 : decode cX1_exchange 80 = .ok (.if_icmp .ne 7, 3) := by decide +kernel
theorem dX1_exchange_83 : decode cX1_exchange 83 = .ok (.iconst 0, 1) := by decide +kernel
theorem dX1_exchange_84 : decode cX1_exchange 84 = .ok (.goto 8, 3) := by decide +kernel
theorem dX1_exchange_87 : decode cX1_exchange 87 = .ok (.iload_n 3, 1) := by decide +kernel
theorem dX1_exchange_88 : decode cX1_exchange 88 = .ok (.i2l, 1) := by decide +kernel
theorem dX1_exchange_89 : decode cX1_exchange 89 = .ok (.invokestatic 69, 3) := by decide +kernel
theorem dX1_exchange_92 : decode cX1_exchange 92 = .ok (.ireturn, 1) := by decide +kernel
set_option maxRecDepth 20000 in
theorem ggX1_tintInOrder_X1_looks : GoodIn wsX1_tintInOrder wsX1_looks := goodIn_r _ [9, 2, 10, 11, 3, 12, 13, 8, 14, 15, 16, 17, 29, 30, 31, 32, 33, 34, 35, 36] (by decide +kernel) (by decide +kernel)
set_option maxRecDepth 20000 in
theorem gX1_tintInOrder_X1_looks : GoodIn wsX1_tintInOrder (wsV RX1 66 RX1 yX1_looks wsX1_looks) := goodIn_app (goodIn_of _ (by decide +kernel)) ggX1_tintInOrder_X1_looks
set_option maxRecDepth 20000 in
theorem ggX1_tintInOrder_X1_isThere : GoodIn wsX1_tintInOrder wsX1_isThere := goodIn_r _ [21, 2, 29, 30, 31, 32, 33, 34, 35, 36] (by decide +kernel) (by decide +kernel)
set_option maxRecDepth 20000 in
theorem gX1_tintInOrder_X1_isThere : GoodIn wsX1_tintInOrder (wsV RX1 103 RX1 yX1_isThere wsX1_isThere) := goodIn_app (goodIn_of _ (by decide +kernel)) ggX1_tintInOrder_X1_isThere
set_option maxRecDepth 20000 in
theorem ggX1_tintInOrder_X1_bits : GoodIn wsX1_tintInOrder wsX1_bits := goodIn_r _ [24] (by decide +kernel) (by decide +kernel)
set_option maxRecDepth 20000 in
theorem gX1_tintInOrder_X1_bits : GoodIn wsX1_tintInOrder (va_wsS RX1 69 yX1_bits wsX1_bits) := goodIn_app (goodIn_of _ (by decide +kernel)) ggX1_tintInOrder_X1_bits
set_option maxRecDepth 20000 in
theorem ggX1_tintInOrder_X1_least : GoodIn wsX1_tintInOrder wsX1_least := goodIn_r _ [28, 4, 29, 30, 31, 32, 33, 34, 35, 36] (by decide +kernel) (by decide +kernel)
set_option maxRecDepth 20000 in
theorem gX1_tintInOrder_X1_least : GoodIn wsX1_tintInOrder (wsV RX1 106 RX1 yX1_least wsX1_least) := goodIn_app (goodIn_of _ (by decide +kernel)) ggX1_tintInOrder_X1_least
theorem dX1_tintInOrder_0 : decode cX1_tintInOrder 0 = .ok (.aload_n 0, 1) := by decide +kernel
theorem dX1_tintInOrder_1 : decode cX1_tintInOrder 1 = .ok (.invokevirtual 66, 3) := by decide +kernel
theorem dX1_tintInOrder_4 : decode cX1_tintInOrder 4 = .ok (.aload_n 0, 1) := by decide +kernel
theorem dX1_tintInOrder_5 : decode cX1_tintInOrder 5 = .ok (.iconst 0, 1) := by decide +kernel
theorem dX1_tintInOrder_6 : decode cX1_tintInOrder 6 = .ok (.putfield 29, 3) := by decide +kernel
theorem dX1_tintInOrder_9 : decode cX1_tintInOrder 9 = .ok (.iconst 0, 1) := by decide +kernel
theorem dX1_tintInOrder_10 : decode cX1_tintInOrder 10 = .ok (.istore_n 2, 1) := by decide +kernel
theorem dX1_tintInOrder_11 : decode cX1_tintInOrder 11 = .ok (.iconst 0, 1) := by decide +kernel
theorem dX1_tintInOrder_12 : decode cX1_tintInOrder 12 = .ok (.istore_n 3, 1) := by decide +kernel
theorem dX1_tintInOrder_13 : decode cX1_tintInOrder 13 = .ok (.iload_n 3, 1) := by decide +kernel
theorem dX1_tintInOrder_14 : decode cX1_tintInOrder 14 = .ok (.aload_n 0, 1) := by decide +kernel
theorem dX1_tintInOrder_15 : decode cX1_tintInOrder 15 = .ok (.getfield 47, 3) := by decide +kernel
theorem dX1_tintInOrder_18 : decode cX1_tintInOrder 18 = .ok (.if_icmp .eq 149, 3) := by decide +kernel
theorem dX1_tintInOrder_21 : decode cX1_tintInOrder 21 = .ok (.iconst (-1), 1) := by decide +kernel
theorem dX1_tintInOrder_22 : decode cX1_tintInOrder 22 = .ok (.istore 4, 2) := by decide +kernel
theorem dX1_tintInOrder_24 : decode cX1_tintInOrder 24 = .ok (.iconst 0, 1) := by decide +kernel
theorem dX1_tintInOrder_25 : decode cX1_tintInOrder 25 = .ok (.istore 5, 2) := by decide +kernel
theorem dX1_tintInOrder_27 : decode cX1_tintInOrder 27 = .ok (.iload 5, 2) := by decide +kernel
theorem dX1_tintInOrder_29 : decode cX1_tintInOrder 29 = .ok (.bipush 10, 2) := by decide +kernel
theorem dX1_tintInOrder_31 : decode cX1_tintInOrder 31 = .ok (.if_icmp .ge 83, 3) := by decide +kernel
theorem dX1_tintInOrder_34 : decode cX1_tintInOrder 34 = .ok (.aload_n 0, 1) := by decide +kernel
theorem dX1_tintInOrder_35 : decode cX1_tintInOrder 35 = .ok (.iload 5, 2) := by decide +kernel
theorem dX1_tintInOrder_37 : decode cX1_tintInOrder 37 = .ok (.invokevirtual 103, 3) := by decide +kernel
theorem dX1_tintInOrder_40 : decode cX1_tintInOrder 40 = .ok (.ifCond .eq 16, 3) := by decide +kernel
theorem dX1_tintInOrder_43 : decode cX1_tintInOrder 43 = .ok (.iload_n 3, 1) := by decide +kernel
theorem dX1_tintInOrder_44 : decode cX1_tintInOrder 44 = .ok (.iload 5, 2) := by decide +kernel
theorem dX1_tintInOrder_46 : decode cX1_tintInOrder 46 = .ok (.ishr, 1) := by decide +kernel
theorem dX1_tintInOrder_47 : decode cX1_tintInOrder 47 = .ok (.iconst 1, 1) := by decide +kernel
theorem dX1_tintInOrder_48 : decode cX1_tintInOrder 48 = .ok (.iand, 1) := by decide +kernel
theorem dX1_tintInOrder_49 : decode cX1_tintInOrder 49 = .ok (.ifCond .ne 7, 3) := by decide +kernel
theorem dX1_tintInOrder_52 : decode cX1_tintInOrder 52 = .ok (.iconst 1, 1) := by decide +kernel
theorem dX1_tintInOrder_53 : decode cX1_tintInOrder 53 = .ok (.goto 4, 3) := by decide +kernel
theorem dX1_tintInOrder_56 : decode cX1_tintInOrder 56 = .ok (.iconst 0, 1) := by decide +kernel
theorem dX1_tintInOrder_57 : decode cX1_tintInOrder 57 = .ok (.istore 6, 2) := by decide +kernel
theorem dX1_tintInOrder_59 : decode cX1_tintInOrder 59 = .ok (.iload 6, 2) := by decide +kernel
theorem dX1_tintInOrder_61 : decode cX1_tintInOrder 61 = .ok (.ifCond .eq 43, 3) := by decide +kernel
theorem dX1_tintInOrder_64 : decode cX1_tintInOrder 64 = .ok (.iload 4, 2) := by decide +kernel
end
section
theorem dX1_tintInOrder_66 : decode cX1_tintInOrder 66 = .ok (.iconst (-1), 1) := by decide +kernel
theorem dX1_tintInOrder_67 : decode cX1_tintInOrder 67 = .ok (.if_icmp .eq 32, 3) := by decide +kernel
theorem dX1_tintInOrder_70 : decode cX1_tintInOrder 70 = .ok (.iload_n 1, 1) := by decide +kernel
theorem dX1_tintInOrder_71 : decode cX1_tintInOrder 71 = .ok (.ifCond .eq 33, 3) := by decide +kernel
theorem dX1_tintInOrder_74 : decode cX1_tintInOrder 74 = .ok (.aload_n 0, 1) := by decide +kernel
theorem dX1_tintInOrder_75 : decode cX1_tintInOrder 75 = .ok (.getfield 20, 3) := by decide +kernel
theorem dX1_tintInOrder_78 : decode cX1_tintInOrder 78 = .ok (.iload 5, 2) := by decide +kernel
theorem dX1_tintInOrder_80 : decode cX1_tintInOrder 80 = .ok (.iaload, 1) := by decide +kernel
theorem dX1_tintInOrder_81 : decode cX1_tintInOrder 81 = .ok (.i2l, 1) := by decide +kernel
theorem dX1_tintInOrder_82 : decode cX1_tintInOrder 82 = .ok (.invokestatic 69, 3) := by decide +kernel
theorem dX1_tintInOrder_85 : decode cX1_tintInOrder 85 = .ok (.aload_n 0, 1) := by decide +kernel
theorem dX1_tintInOrder_86 : decode cX1_tintInOrder 86 = .ok (.getfield 20, 3) := by decide +kernel
theorem dX1_tintInOrder_89 : decode cX1_tintInOrder 89 = .ok (.iload 4, 2) := by decide +kernel
theorem dX1_tintInOrder_91 : decode cX1_tintInOrder 91 = .ok (.iaload, 1) := by decide +kernel
theorem dX1_tintInOrder_92 : decode cX1_tintInOrder 92 = .ok (.i2l, 1) := by decide +kernel
theorem dX1_tintInOrder_93 : decode cX1_tintInOrder 93 = .ok (.invokestatic 69, 3) := by decide +kernel
theorem dX1_tintInOrder_96 : decode cX1_tintInOrder 96 = .ok (.if_icmp .le 8, 3) := by decide +kernel
theorem dX1_tintInOrder_99 : decode cX1_tintInOrder 99 = .ok (.iload 5, 2) := by decide +kernel
theorem dX1_tintInOrder_101 : decode cX1_tintInOrder 101 = .ok (.goto 5, 3) := by decide +kernel
theorem dX1_tintInOrder_104 : decode cX1_tintInOrder 104 = .ok (.iload 4, 2) := by decide +kernel
theorem dX1_tintInOrder_106 : decode cX1_tintInOrder 106 = .ok (.istore 4, 2) := by decide +kernel
theorem dX1_tintInOrder_108 : decode cX1_tintInOrder 108 = .ok (.iinc 5 1, 3) := by decide +kernel
theorem dX1_tintInOrder_111 : decode cX1_tintInOrder 111 = .ok (.goto (-84), 3) := by decide +kernel
theorem dX1_tintInOrder_114 : decode cX1_tintInOrder 114 = .ok (.aload_n 0, 1) := by decide +kernel
theorem dX1_tintInOrder_115 : decode cX1_tintInOrder 115 = .ok (.getfield 13, 3) := by decide +kernel
theorem dX1_tintInOrder_118 : decode cX1_tintInOrder 118 = .ok (.iload 4, 2) := by decide +kernel
theorem dX1_tintInOrder_120 : decode cX1_tintInOrder 120 = .ok (.aload_n 0, 1) := by decide +kernel
theorem dX1_tintInOrder_121 : decode cX1_tintInOrder 121 = .ok (.aload_n 0, 1) := by decide +kernel
theorem dX1_tintInOrder_122 : decode cX1_tintInOrder 122 = .ok (.getfield 20, 3) := by decide +kernel
theorem dX1_tintInOrder_125 : decode cX1_tintInOrder 125 = .ok (.iload 4, 2) := by decide +kernel
theorem dX1_tintInOrder_127 : decode cX1_tintInOrder 127 = .ok (.iaload, 1) := by decide +kernel
theorem dX1_tintInOrder_128 : decode cX1_tintInOrder 128 = .ok (.iload_n 3, 1) := by decide +kernel
theorem dX1_tintInOrder_129 : decode cX1_tintInOrder 129 = .ok (.iand, 1) := by decide +kernel
theorem dX1_tintInOrder_130 : decode cX1_tintInOrder 130 = .ok (.invokevirtual 106, 3) := by decide +kernel
theorem dX1_tintInOrder_133 : decode cX1_tintInOrder 133 = .ok (.iastore, 1) := by decide +kernel
theorem dX1_tintInOrder_134 : decode cX1_tintInOrder 134 = .ok (.aload_n 0, 1) := by decide +kernel
theorem dX1_tintInOrder_135 : decode cX1_tintInOrder 135 = .ok (.getfield 13, 3) := by decide +kernel
theorem dX1_tintInOrder_138 : decode cX1_tintInOrder 138 = .ok (.iload 4, 2) := by decide +kernel
theorem dX1_tintInOrder_140 : decode cX1_tintInOrder 140 = .ok (.iaload, 1) := by decide +kernel
theorem dX1_tintInOrder_141 : decode cX1_tintInOrder 141 = .ok (.iload_n 2, 1) := by decide +kernel
theorem dX1_tintInOrder_142 : decode cX1_tintInOrder 142 = .ok (.if_icmp .le 13, 3) := by decide +kernel
theorem dX1_tintInOrder_145 : decode cX1_tintInOrder 145 = .ok (.aload_n 0, 1) := by decide +kernel
theorem dX1_tintInOrder_146 : decode cX1_tintInOrder 146 = .ok (.getfield 13, 3) := by decide +kernel
theorem dX1_tintInOrder_149 : decode cX1_tintInOrder 149 = .ok (.iload 4, 2) := by decide +kernel
theorem dX1_tintInOrder_151 : decode cX1_tintInOrder 151 = .ok (.iaload, 1) := by decide +kernel
theorem dX1_tintInOrder_152 : decode cX1_tintInOrder 152 = .ok (.goto 4, 3) := by decide +kernel
theorem dX1_tintInOrder_155 : decode cX1_tintInOrder 155 = .ok (.iload_n 2, 1) := by decide +kernel
theorem dX1_tintInOrder_156 : decode cX1_tintInOrder 156 = .ok (.istore_n 2, 1) := by decide +kernel
theorem dX1_tintInOrder_157 : decode cX1_tintInOrder 157 = .ok (.iload_n 3, 1) := by decide +kernel
theorem dX1_tintInOrder_158 : decode cX1_tintInOrder 158 = .ok (.iconst 1, 1) := by decide +kernel
theorem dX1_tintInOrder_159 : decode cX1_tintInOrder 159 = .ok (.iload 4, 2) := by decide +kernel
theorem dX1_tintInOrder_161 : decode cX1_tintInOrder 161 = .ok (.ishl, 1) := by decide +kernel
theorem dX1_tintInOrder_162 : decode cX1_tintInOrder 162 = .ok (.ior, 1) := by decide +kernel
theorem dX1_tintInOrder_163 : decode cX1_tintInOrder 163 = .ok (.istore_n 3, 1) := by decide +kernel
theorem dX1_tintInOrder_164 : decode cX1_tintInOrder 164 = .ok (.goto (-151), 3) := by decide +kernel
theorem dX1_tintInOrder_167 : decode cX1_tintInOrder 167 = .ok (.iload_n 2, 1) := by decide +kernel
theorem dX1_tintInOrder_168 : decode cX1_tintInOrder 168 = .ok (.ireturn, 1) := by decide +kernel
set_option maxRecDepth 20000 in
theorem ggX1_begins_X1_looks : GoodIn wsX1_begins wsX1_looks := goodIn_r _ [6, 7, 8, 9, 10, 11, 12, 5, 13, 14, 15, 16, 17, 18, 19, 20, 21, 22, 23, 24] (by decide +kernel) (by decide +kernel)
set_option maxRecDepth 20000 in
theorem gX1_begins_X1_looks : GoodIn wsX1_begins (wsV RX1 66 RX1 yX1_looks wsX1_looks) := goodIn_app (goodIn_of _ (by decide +kernel)) ggX1_begins_X1_looks
theorem dX1_begins_0 : decode cX1_begins 0 = .ok (.aload_n 0, 1) := by decide +kernel
theorem dX1_begins_1 : decode cX1_begins 1 = .ok (.invokevirtual 66, 3) := by decide +kernel
theorem dX1_begins_4 : decode cX1_begins 4 = .ok (.iconst 0, 1) := by decide +kernel
theorem dX1_begins_5 : decode cX1_begins 5 = .ok (.istore_n 1, 1) := by decide +kernel
theorem dX1_begins_6 : decode cX1_begins 6 = .ok (.iload_n 1, 1) := by decide +kernel
theorem dX1_begins_7 : decode cX1_begins 7 = .ok (.sipush 1024, 3) := by decide +kernel
theorem dX1_begins_10 : decode cX1_begins 10 = .ok (.if_icmp .ge 24, 3) := by decide +kernel
theorem dX1_begins_13 : decode cX1_begins 13 = .ok (.aload_n 0, 1) := by decide +kernel
theorem dX1_begins_14 : decode cX1_begins 14 = .ok (.getfield 23, 3) := by decide +kernel
theorem dX1_begins_17 : decode cX1_begins 17 = .ok (.iload_n 1, 1) := by decide +kernel
theorem dX1_begins_18 : decode cX1_begins 18 = .ok (.iload_n 1, 1) := by decide +kernel
theorem dX1_begins_19 : decode cX1_begins 19 = .ok (.ifCond .ne 7, 3) := by decide +kernel
theorem dX1_begins_22 : decode cX1_begins 22 = .ok (.lconst 1, 1) := by decide +kernel
theorem dX1_begins_23 : decode cX1_begins 23 = .ok (.goto 4, 3) := by decide +kernel
theorem dX1_begins_26 : decode cX1_begins 26 = .ok (.lconst 0, 1) := by decide +kernel
theorem dX1_begins_27 : decode cX1_begins 27 = .ok (.lastore, 1) := by decide +kernel
theorem dX1_begins_28 : decode cX1_begins 28 = .ok (.iinc 1 1, 3) := by decide +kernel
theorem dX1_begins_31 : decode cX1_begins 31 = .ok (.goto (-25), 3) := by decide +kernel
theorem dX1_begins_34 : decode cX1_begins 34 = .ok (.return_, 1) := by decide +kernel
set_option maxRecDepth 20000 in
theorem ggX1_adds_X1_areNear : GoodIn wsX1_adds wsX1_areNear := goodIn_r _ [8, 2, 9, 10, 11, 12, 13, 14, 15, 16, 17] (by decide +kernel) (by decide +kernel)
set_option maxRecDepth 20000 in
theorem gX1_adds_X1_areNear : GoodIn wsX1_adds (wsV RX1 95 RX1 yX1_areNear wsX1_areNear) := goodIn_app (goodIn_of _ (by decide +kernel)) ggX1_adds_X1_areNear
theorem dX1_adds_0 : decode cX1_adds 0 = .ok (.iconst 0, 1) := by decide +kernel
theorem dX1_adds_1 : decode cX1_adds 1 = .ok (.istore_n 1, 1) := by decide +kernel
theorem dX1_adds_2 : decode cX1_adds 2 = .ok (.iload_n 1, 1) := by decide +kernel
theorem dX1_adds_3 : decode cX1_adds 3 = .ok (.sipush 1024, 3) := by decide +kernel
theorem dX1_adds_6 : decode cX1_adds 6 = .ok (.if_icmp .ge 16, 3) := by decide +kernel
theorem dX1_adds_9 : decode cX1_adds 9 = .ok (.aload_n 0, 1) := by decide +kernel
theorem dX1_adds_10 : decode cX1_adds 10 = .ok (.getfield 26, 3) := by decide +kernel
theorem dX1_adds_13 : decode cX1_adds 13 = .ok (.iload_n 1, 1) := by decide +kernel
theorem dX1_adds_14 : decode cX1_adds 14 = .ok (.lconst 0, 1) := by decide +kernel
theorem dX1_adds_15 : decode cX1_adds 15 = .ok (.lastore, 1) := by decide +kernel
theorem dX1_adds_16 : decode cX1_adds 16 = .ok (.iinc 1 1, 3) := by decide +kernel
theorem dX1_adds_19 : decode cX1_adds 19 = .ok (.goto (-17), 3) := by decide +kernel
theorem dX1_adds_22 : decode cX1_adds 22 = .ok (.iconst 0, 1) := by decide +kernel
theorem dX1_adds_23 : decode cX1_adds 23 = .ok (.istore_n 1, 1) := by decide +kernel
theorem dX1_adds_24 : decode cX1_adds 24 = .ok (.iload_n 1, 1) := by decide +kernel
theorem dX1_adds_25 : decode cX1_adds 25 = .ok (.sipush 1024, 3) := by decide +kernel
theorem dX1_adds_28 : decode cX1_adds 28 = .ok (.if_icmp .ge 67, 3) := by decide +kernel
theorem dX1_adds_31 : decode cX1_adds 31 = .ok (.aload_n 0, 1) := by decide +kernel
theorem dX1_adds_32 : decode cX1_adds 32 = .ok (.iload_n 1, 1) := by decide +kernel
theorem dX1_adds_33 : decode cX1_adds 33 = .ok (.iconst 0, 1) := by decide +kernel
theorem dX1_adds_34 : decode cX1_adds 34 = .ok (.invokevirtual 95, 3) := by decide +kernel
theorem dX1_adds_37 : decode cX1_adds 37 = .ok (.ifCond .eq 52, 3) := by decide +kernel
theorem dX1_adds_40 : decode cX1_adds 40 = .ok (.aload_n 0, 1) := by decide +kernel
theorem dX1_adds_41 : decode cX1_adds 41 = .ok (.getfield 47, 3) := by decide +kernel
theorem dX1_adds_44 : decode cX1_adds 44 = .ok (.iload_n 1, 1) := by decide +kernel
theorem dX1_adds_45 : decode cX1_adds 45 = .ok (.iconst (-1), 1) := by decide +kernel
theorem dX1_adds_46 : decode cX1_adds 46 = .ok (.ixor, 1) := by decide +kernel
theorem dX1_adds_47 : decode cX1_adds 47 = .ok (.iand, 1) := by decide +kernel
theorem dX1_adds_48 : decode cX1_adds 48 = .ok (.istore_n 2, 1) := by decide +kernel
theorem dX1_adds_49 : decode cX1_adds 49 = .ok (.iload_n 2, 1) := by decide +kernel
theorem dX1_adds_50 : decode cX1_adds 50 = .ok (.istore_n 3, 1) := by decide +kernel
theorem dX1_adds_51 : decode cX1_adds 51 = .ok (.iload_n 3, 1) := by decide +kernel
theorem dX1_adds_52 : decode cX1_adds 52 = .ok (.ifCond .lt 37, 3) := by decide +kernel
theorem dX1_adds_55 : decode cX1_adds 55 = .ok (.aload_n 0, 1) := by decide +kernel
theorem dX1_adds_56 : decode cX1_adds 56 = .ok (.getfield 26, 3) := by decide +kernel
theorem dX1_adds_59 : decode cX1_adds 59 = .ok (.iload_n 3, 1) := by decide +kernel
theorem dX1_adds_60 : decode cX1_adds 60 = .ok (.iload_n 1, 1) := by decide +kernel
theorem dX1_adds_61 : decode cX1_adds 61 = .ok (.ior, 1) := by decide +kernel
theorem dX1_adds_62 : decode cX1_adds 62 = .ok (.dup2, 1) := by decide +kernel
theorem dX1_adds_63 : decode cX1_adds 63 = .ok (.laload, 1) := by decide +kernel
theorem dX1_adds_64 : decode cX1_adds 64 = .ok (.aload_n 0, 1) := by decide +kernel
theorem dX1_adds_65 : decode cX1_adds 65 = .ok (.getfield 23, 3) := by decide +kernel
theorem dX1_adds_68 : decode cX1_adds 68 = .ok (.iload_n 3, 1) := by decide +kernel
theorem dX1_adds_69 : decode cX1_adds 69 = .ok (.laload, 1) := by decide +kernel
theorem dX1_adds_70 : decode cX1_adds 70 = .ok (.ladd, 1) := by decide +kernel
theorem dX1_adds_71 : decode cX1_adds 71 = .ok (.lastore, 1) := by decide +kernel
theorem dX1_adds_72 : decode cX1_adds 72 = .ok (.iload_n 3, 1) := by decide +kernel
theorem dX1_adds_73 : decode cX1_adds 73 = .ok (.ifCond .ne 7, 3) := by decide +kernel
theorem dX1_adds_76 : decode cX1_adds 76 = .ok (.iconst (-1), 1) := by decide +kernel
theorem dX1_adds_77 : decode cX1_adds 77 = .ok (.goto 8, 3) := by decide +kernel
theorem dX1_adds_80 : decode cX1_adds 80 = .ok (.iload_n 3, 1) := by decide +kernel
theorem dX1_adds_81 : decode cX1_adds 81 = .ok (.iconst 1, 1) := by decide +kernel
theorem dX1_adds_82 : decode cX1_adds 82 = .ok (.isub, 1) := by decide +kernel
theorem dX1_adds_83 : decode cX1_adds 83 = .ok (.iload_n 2, 1) := by decide +kernel
theorem dX1_adds_84 : decode cX1_adds 84 = .ok (.iand, 1) := by decide +kernel
theorem dX1_adds_85 : decode cX1_adds 85 = .ok (.istore_n 3, 1) := by decide +kernel
theorem dX1_adds_86 : decode cX1_adds 86 = .ok (.goto (-35), 3) := by decide +kernel
theorem dX1_adds_89 : decode cX1_adds 89 = .ok (.iinc 1 1, 3) := by decide +kernel
theorem dX1_adds_92 : decode cX1_adds 92 = .ok (.goto (-68), 3) := by decide +kernel
theorem dX1_adds_95 : decode cX1_adds 95 = .ok (.iconst 0, 1) := by decide +kernel
theorem dX1_adds_96 : decode cX1_adds 96 = .ok (.istore_n 1, 1) := by decide +kernel
theorem dX1_adds_97 : decode cX1_adds 97 = .ok (.iload_n 1, 1) := by decide +kernel
theorem dX1_adds_98 : decode cX1_adds 98 = .ok (.sipush 1024, 3) := by decide +kernel
theorem dX1_adds_101 : decode cX1_adds 101 = .ok (.if_icmp .ge 21, 3) := by decide +kernel
theorem dX1_adds_104 : decode cX1_adds 104 = .ok (.aload_n 0, 1) := by decide +kernel
theorem dX1_adds_105 : decode cX1_adds 105 = .ok (.getfield 23, 3) := by decide +kernel
theorem dX1_adds_108 : decode cX1_adds 108 = .ok (.iload_n 1, 1) := by decide +kernel
theorem dX1_adds_109 : decode cX1_adds 109 = .ok (.aload_n 0, 1) := by decide +kernel
theorem dX1_adds_110 : decode cX1_adds 110 = .ok (.getfield 26, 3) := by decide +kernel
theorem dX1_adds_113 : decode cX1_adds 113 = .ok (.iload_n 1, 1) := by decide +kernel
theorem dX1_adds_114 : decode cX1_adds 114 = .ok (.laload, 1) := by decide +kernel
theorem dX1_adds_115 : decode cX1_adds 115 = .ok (.lastore, 1) := by decide +kernel
theorem dX1_adds_116 : decode cX1_adds 116 = .ok (.iinc 1 1, 3) := by decide +kernel
theorem dX1_adds_119 : decode cX1_adds 119 = .ok (.goto (-22), 3) := by decide +kernel
theorem dX1_adds_122 : decode cX1_adds 122 = .ok (.return_, 1) := by decide +kernel
set_option maxRecDepth 20000 in
theorem ggX1_fewest_X1_begins : GoodIn wsX1_fewest wsX1_begins := goodIn_r _ [7, 1, 8, 9, 10, 6, 11, 2, 12, 13, 14, 15, 16, 17, 18, 19, 20, 30, 31, 32, 33, 34, 35, 36, 37] (by decide +kernel) (by decide +kernel)
set_option maxRecDepth 20000 in
theorem gX1_fewest_X1_begins : GoodIn wsX1_fewest (wsV RX1 115 RX1 yX1_begins wsX1_begins) := goodIn_app (goodIn_of _ (by decide +kernel)) ggX1_fewest_X1_begins
set_option maxRecDepth 20000 in
theorem ggX1_fewest_X1_adds : GoodIn wsX1_fewest wsX1_adds := goodIn_r _ [24, 25, 2, 1, 26, 27, 28, 6, 29, 14, 30, 31, 32, 33, 34, 35, 36, 37] (by decide +kernel) (by decide +kernel)
set_option maxRecDepth 20000 in
theorem gX1_fewest_X1_adds : GoodIn wsX1_fewest (wsV RX1 118 RX1 yX1_adds wsX1_adds) := goodIn_app (goodIn_of _ (by decide +kernel)) ggX1_fewest_X1_adds
theorem dX1_fewest_0 : decode cX1_fewest 0 = .ok (.aload_n 0, 1) := by decide +kernel
theorem dX1_fewest_1 : decode cX1_fewest 1 = .ok (.invokevirtual 115, 3) := by decide +kernel
theorem dX1_fewest_4 : decode cX1_fewest 4 = .ok (.iconst 0, 1) := by decide +kernel
theorem dX1_fewest_5 : decode cX1_fewest 5 = .ok (.istore_n 1, 1) := by decide +kernel
theorem dX1_fewest_6 : decode cX1_fewest 6 = .ok (.aload_n 0, 1) := by decide +kernel
theorem dX1_fewest_7 : decode cX1_fewest 7 = .ok (.getfield 23, 3) := by decide +kernel
theorem dX1_fewest_10 : decode cX1_fewest 10 = .ok (.aload_n 0, 1) := by decide +kernel
theorem dX1_fewest_11 : decode cX1_fewest 11 = .ok (.getfield 47, 3) := by decide +kernel
theorem dX1_fewest_14 : decode cX1_fewest 14 = .ok (.laload, 1) := by decide +kernel
theorem dX1_fewest_15 : decode cX1_fewest 15 = .ok (.lconst 0, 1) := by decide +kernel
theorem dX1_fewest_16 : decode cX1_fewest 16 = .ok (.lcmp, 1) := by decide +kernel
theorem dX1_fewest_17 : decode cX1_fewest 17 = .ok (.ifCond .ne 13, 3) := by decide +kernel
theorem dX1_fewest_20 : decode cX1_fewest 20 = .ok (.aload_n 0, 1) := by decide +kernel
theorem dX1_fewest_21 : decode cX1_fewest 21 = .ok (.invokevirtual 118, 3) := by decide +kernel
theorem dX1_fewest_24 : decode cX1_fewest 24 = .ok (.iinc 1 1, 3) := by decide +kernel
theorem dX1_fewest_27 : decode cX1_fewest 27 = .ok (.goto (-21), 3) := by decide +kernel
theorem dX1_fewest_30 : decode cX1_fewest 30 = .ok (.iload_n 1, 1) := by decide +kernel
theorem dX1_fewest_31 : decode cX1_fewest 31 = .ok (.ireturn, 1) := by decide +kernel
set_option maxRecDepth 20000 in
theorem ggX1_fewestTints_X1_fewest : GoodIn wsX1_fewestTints wsX1_fewest := goodIn_r _ [5, 6, 7, 8, 9, 10, 4, 11, 12, 13, 14, 15, 16, 17, 18, 19, 20, 21, 22, 23, 24, 25, 26, 27, 28, 29, 30, 31, 32, 33, 39, 40, 41, 42, 43, 44, 45, 46] (by decide +kernel) (by decide +kernel)
set_option maxRecDepth 20000 in
theorem gX1_fewestTints_X1_fewest : GoodIn wsX1_fewestTints (wsV RX1 121 RX1 yX1_fewest wsX1_fewest) := goodIn_app (goodIn_of _ (by decide +kernel)) ggX1_fewestTints_X1_fewest
set_option maxRecDepth 20000 in
theorem ggX1_fewestTints_X1_told : GoodIn wsX1_fewestTints wsX1_told := goodIn_r _ [37, 38, 39, 40, 41, 42, 43, 44, 45, 46] (by decide +kernel) (by decide +kernel)
set_option maxRecDepth 20000 in
theorem gX1_fewestTints_X1_told : GoodIn wsX1_fewestTints (wsV RX1 73 RX1 yX1_told wsX1_told) := goodIn_app (goodIn_of _ (by decide +kernel)) ggX1_fewestTints_X1_told
theorem dX1_fewestTints_0 : decode cX1_fewestTints 0 = .ok (.aload_n 0, 1) := by decide +kernel
theorem dX1_fewestTints_1 : decode cX1_fewestTints 1 = .ok (.aload_n 0, 1) := by decide +kernel
theorem dX1_fewestTints_2 : decode cX1_fewestTints 2 = .ok (.invokevirtual 121, 3) := by decide +kernel
theorem dX1_fewestTints_5 : decode cX1_fewestTints 5 = .ok (.invokevirtual 73, 3) := by decide +kernel
theorem dX1_fewestTints_8 : decode cX1_fewestTints 8 = .ok (.ireturn, 1) := by decide +kernel
theorem dX1_isApart_0 : decode cX1_isApart 0 = .ok (.iconst 1, 1) := by decide +kernel
theorem dX1_isApart_1 : decode cX1_isApart 1 = .ok (.istore_n 2, 1) := by decide +kernel
theorem dX1_isApart_2 : decode cX1_isApart 2 = .ok (.iconst 0, 1) := by decide +kernel
theorem dX1_isApart_3 : decode cX1_isApart 3 = .ok (.istore_n 3, 1) := by decide +kernel
theorem dX1_isApart_4 : decode cX1_isApart 4 = .ok (.iload_n 3, 1) := by decide +kernel
theorem dX1_isApart_5 : decode cX1_isApart 5 = .ok (.iload_n 1, 1) := by decide +kernel
theorem dX1_isApart_6 : decode cX1_isApart 6 = .ok (.if_icmp .ge 47, 3) := by decide +kernel
theorem dX1_isApart_9 : decode cX1_isApart 9 = .ok (.iload_n 2, 1) := by decide +kernel
theorem dX1_isApart_10 : decode cX1_isApart 10 = .ok (.ifCond .eq 35, 3) := by decide +kernel
theorem dX1_isApart_13 : decode cX1_isApart 13 = .ok (.aload_n 0, 1) := by decide +kernel
theorem dX1_isApart_14 : decode cX1_isApart 14 = .ok (.getfield 20, 3) := by decide +kernel
theorem dX1_isApart_17 : decode cX1_isApart 17 = .ok (.iload_n 1, 1) := by decide +kernel
theorem dX1_isApart_18 : decode cX1_isApart 18 = .ok (.iaload, 1) := by decide +kernel
theorem dX1_isApart_19 : decode cX1_isApart 19 = .ok (.iload_n 3, 1) := by decide +kernel
theorem dX1_isApart_20 : decode cX1_isApart 20 = .ok (.ishr, 1) := by decide +kernel
theorem dX1_isApart_21 : decode cX1_isApart 21 = .ok (.iconst 1, 1) := by decide +kernel
theorem dX1_isApart_22 : decode cX1_isApart 22 = .ok (.iand, 1) := by decide +kernel
theorem dX1_isApart_23 : decode cX1_isApart 23 = .ok (.ifCond .eq 18, 3) := by decide +kernel
theorem dX1_isApart_26 : decode cX1_isApart 26 = .ok (.aload_n 0, 1) := by decide +kernel
theorem dX1_isApart_27 : decode cX1_isApart 27 = .ok (.getfield 13, 3) := by decide +kernel
theorem dX1_isApart_30 : decode cX1_isApart 30 = .ok (.iload_n 3, 1) := by decide +kernel
theorem dX1_isApart_31 : decode cX1_isApart 31 = .ok (.iaload, 1) := by decide +kernel
theorem dX1_isApart_32 : decode cX1_isApart 32 = .ok (.aload_n 0, 1) := by decide +kernel
theorem dX1_isApart_33 : decode cX1_isApart 33 = .ok (.getfield 13, 3) := by decide +kernel
theorem dX1_isApart_36 : decode cX1_isApart 36 = .ok (.iload_n 1, 1) := by decide +kernel
theorem dX1_isApart_37 : decode cX1_isApart 37 = .ok (.iaload, 1) := by decide +kernel
theorem dX1_isApart_38 : decode cX1_isApart 38 = .ok (.if_icmp .eq 7, 3) := by decide +kernel
theorem dX1_isApart_41 : decode cX1_isApart 41 = .ok (.iconst 1, 1) := by decide +kernel
theorem dX1_isApart_42 : decode cX1_isApart 42 = .ok (.goto 4, 3) := by decide +kernel
theorem dX1_isApart_45 : decode cX1_isApart 45 = .ok (.iconst 0, 1) := by decide +kernel
theorem dX1_isApart_46 : decode cX1_isApart 46 = .ok (.istore_n 2, 1) := by decide +kernel
theorem dX1_isApart_47 : decode cX1_isApart 47 = .ok (.iinc 3 1, 3) := by decide +kernel
theorem dX1_isApart_50 : decode cX1_isApart 50 = .ok (.goto (-46), 3) := by decide +kernel
theorem dX1_isApart_53 : decode cX1_isApart 53 = .ok (.iload_n 2, 1) := by decide +kernel
theorem dX1_isApart_54 : decode cX1_isApart 54 = .ok (.ireturn, 1) := by decide +kernel
set_option maxRecDepth 20000 in
theorem ggX1_next_X1_in : GoodIn wsX1_next wsX1_in := goodIn_r _ [4] (by decide +kernel) (by decide +kernel)
set_option maxRecDepth 20000 in
theorem gX1_next_X1_in : GoodIn wsX1_next (va_wsS RX1 33 yX1_in wsX1_in) := goodIn_app (goodIn_of _ (by decide +kernel)) ggX1_next_X1_in
set_option maxRecDepth 20000 in
theorem ggX1_next_X1_isThere : GoodIn wsX1_next wsX1_isThere := goodIn_r _ [8, 9, 10, 11, 12, 13, 14, 15, 16, 17] (by decide +kernel) (by decide +kernel)
set_option maxRecDepth 20000 in
theorem gX1_next_X1_isThere : GoodIn wsX1_next (wsV RX1 103 RX1 yX1_isThere wsX1_isThere) := goodIn_app (goodIn_of _ (by decide +kernel)) ggX1_next_X1_isThere
theorem dX1_next_0 : decode cX1_next 0 = .ok (.iload_n 1, 1) := by decide +kernel
theorem dX1_next_1 : decode cX1_next 1 = .ok (.iload_n 2, 1) := by decide +kernel
theorem dX1_next_2 : decode cX1_next 2 = .ok (.iadd, 1) := by decide +kernel
theorem dX1_next_3 : decode cX1_next 3 = .ok (.istore_n 3, 1) := by decide +kernel
theorem dX1_next_4 : decode cX1_next 4 = .ok (.iload_n 3, 1) := by decide +kernel
theorem dX1_next_5 : decode cX1_next 5 = .ok (.iconst 0, 1) := by decide +kernel
theorem dX1_next_6 : decode cX1_next 6 = .ok (.bipush 9, 2) := by decide +kernel
theorem dX1_next_8 : decode cX1_next 8 = .ok (.invokestatic 33, 3) := by decide +kernel
theorem dX1_next_11 : decode cX1_next 11 = .ok (.ifCond .eq 18, 3) := by decide +kernel
theorem dX1_next_14 : decode cX1_next 14 = .ok (.aload_n 0, 1) := by decide +kernel
theorem dX1_next_15 : decode cX1_next 15 = .ok (.iload_n 3, 1) := by decide +kernel
theorem dX1_next_16 : decode cX1_next 16 = .ok (.invokevirtual 103, 3) := by decide +kernel
theorem dX1_next_19 : decode cX1_next 19 = .ok (.ifCond .ne 10, 3) := by decide +kernel
theorem dX1_next_22 : decode cX1_next 22 = .ok (.iload_n 3, 1) := by decide +kernel
theorem dX1_next_23 : decode cX1_next 23 = .ok (.iload_n 2, 1) := by decide +kernel
theorem dX1_next_24 : decode cX1_next 24 = .ok (.iadd, 1) := by decide +kernel
theorem dX1_next_25 : decode cX1_next 25 = .ok (.istore_n 3, 1) := by decide +kernel
theorem dX1_next_26 : decode cX1_next 26 = .ok (.goto (-22), 3) := by decide +kernel
theorem dX1_next_29 : decode cX1_next 29 = .ok (.iload_n 3, 1) := by decide +kernel
theorem dX1_next_30 : decode cX1_next 30 = .ok (.ireturn, 1) := by decide +kernel
set_option maxRecDepth 20000 in
theorem ggX1_tintWithFewest_X1_fewest : GoodIn wsX1_tintWithFewest wsX1_fewest := goodIn_r _ [7, 8, 9, 10, 11, 12, 6, 13, 14, 15, 16, 17, 18, 19, 20, 21, 22, 23, 24, 25, 26, 27, 28, 29, 30, 31, 32, 33, 34, 35, 51, 52, 53, 54, 55, 56, 57, 58] (by decide +kernel) (by decide +kernel)
set_option maxRecDepth 20000 in
theorem gX1_tintWithFewest_X1_fewest : GoodIn wsX1_tintWithFewest (wsV RX1 121 RX1 yX1_fewest wsX1_fewest) := goodIn_app (goodIn_of _ (by decide +kernel)) ggX1_tintWithFewest_X1_fewest
set_option maxRecDepth 20000 in
theorem ggX1_tintWithFewest_X1_next : GoodIn wsX1_tintWithFewest wsX1_next := goodIn_r _ [39, 40, 41, 6, 42, 43, 44, 45, 46, 9, 51, 52, 53, 54, 55, 56, 57, 58] (by decide +kernel) (by decide +kernel)
set_option maxRecDepth 20000 in
theorem gX1_tintWithFewest_X1_next : GoodIn wsX1_tintWithFewest (wsV RX1 124 RX1 yX1_next wsX1_next) := goodIn_app (goodIn_of _ (by decide +kernel)) ggX1_tintWithFewest_X1_next
set_option maxRecDepth 20000 in
theorem ggX1_tintWithFewest_X1_isApart : GoodIn wsX1_tintWithFewest wsX1_isApart := goodIn_r _ [50, 20, 2, 51, 52, 53, 54, 55, 56, 57, 58] (by decide +kernel) (by decide +kernel)
set_option maxRecDepth 20000 in
theorem gX1_tintWithFewest_X1_isApart : GoodIn wsX1_tintWithFewest (wsV RX1 127 RX1 yX1_isApart wsX1_isApart) := goodIn_app (goodIn_of _ (by decide +kernel)) ggX1_tintWithFewest_X1_isApart
theorem dX1_tintWithFewest_0 : decode cX1_tintWithFewest 0 = .ok (.aload_n 0, 1) := by decide +kernel
theorem dX1_tintWithFewest_1 : decode cX1_tintWithFewest 1 = .ok (.iconst 0, 1) := by decide +kernel
theorem dX1_tintWithFewest_2 : decode cX1_tintWithFewest 2 = .ok (.putfield 29, 3) := by decide +kernel
theorem dX1_tintWithFewest_5 : decode cX1_tintWithFewest 5 = .ok (.aload_n 0, 1) := by decide +kernel
theorem dX1_tintWithFewest_6 : decode cX1_tintWithFewest 6 = .ok (.invokevirtual 121, 3) := by decide +kernel
theorem dX1_tintWithFewest_9 : decode cX1_tintWithFewest 9 = .ok (.istore_n 1, 1) := by decide +kernel
theorem dX1_tintWithFewest_10 : decode cX1_tintWithFewest 10 = .ok (.aload_n 0, 1) := by decide +kernel
theorem dX1_tintWithFewest_11 : decode cX1_tintWithFewest 11 = .ok (.iconst (-1), 1) := by decide +kernel
theorem dX1_tintWithFewest_12 : decode cX1_tintWithFewest 12 = .ok (.iconst 1, 1) := by decide +kernel
theorem dX1_tintWithFewest_13 : decode cX1_tintWithFewest 13 = .ok (.invokevirtual 124, 3) := by decide +kernel
theorem dX1_tintWithFewest_16 : decode cX1_tintWithFewest 16 = .ok (.istore_n 2, 1) := by decide +kernel
theorem dX1_tintWithFewest_17 : decode cX1_tintWithFewest 17 = .ok (.iload_n 2, 1) := by decide +kernel
theorem dX1_tintWithFewest_18 : decode cX1_tintWithFewest 18 = .ok (.bipush 10, 2) := by decide +kernel
theorem dX1_tintWithFewest_20 : decode cX1_tintWithFewest 20 = .ok (.if_icmp .ge 10, 3) := by decide +kernel
theorem dX1_tintWithFewest_23 : decode cX1_tintWithFewest 23 = .ok (.aload_n 0, 1) := by decide +kernel
theorem dX1_tintWithFewest_24 : decode cX1_tintWithFewest 24 = .ok (.getfield 13, 3) := by decide +kernel
theorem dX1_tintWithFewest_27 : decode cX1_tintWithFewest 27 = .ok (.iload_n 2, 1) := by decide +kernel
theorem dX1_tintWithFewest_28 : decode cX1_tintWithFewest 28 = .ok (.iconst 0, 1) := by decide +kernel
theorem dX1_tintWithFewest_29 : decode cX1_tintWithFewest 29 = .ok (.iastore, 1) := by decide +kernel
theorem dX1_tintWithFewest_30 : decode cX1_tintWithFewest 30 = .ok (.iload_n 2, 1) := by decide +kernel
theorem dX1_tintWithFewest_31 : decode cX1_tintWithFewest 31 = .ok (.bipush 10, 2) := by decide +kernel
theorem dX1_tintWithFewest_33 : decode cX1_tintWithFewest 33 = .ok (.if_icmp .ge 95, 3) := by decide +kernel
theorem dX1_tintWithFewest_36 : decode cX1_tintWithFewest 36 = .ok (.aload_n 0, 1) := by decide +kernel
theorem dX1_tintWithFewest_37 : decode cX1_tintWithFewest 37 = .ok (.getfield 13, 3) := by decide +kernel
theorem dX1_tintWithFewest_40 : decode cX1_tintWithFewest 40 = .ok (.iload_n 2, 1) := by decide +kernel
theorem dX1_tintWithFewest_41 : decode cX1_tintWithFewest 41 = .ok (.dup2, 1) := by decide +kernel
theorem dX1_tintWithFewest_42 : decode cX1_tintWithFewest 42 = .ok (.iaload, 1) := by decide +kernel
theorem dX1_tintWithFewest_43 : decode cX1_tintWithFewest 43 = .ok (.iconst 1, 1) := by decide +kernel
theorem dX1_tintWithFewest_44 : decode cX1_tintWithFewest 44 = .ok (.iadd, 1) := by decide +kernel
theorem dX1_tintWithFewest_45 : decode cX1_tintWithFewest 45 = .ok (.iastore, 1) := by decide +kernel
theorem dX1_tintWithFewest_46 : decode cX1_tintWithFewest 46 = .ok (.aload_n 0, 1) := by decide +kernel
theorem dX1_tintWithFewest_47 : decode cX1_tintWithFewest 47 = .ok (.getfield 13, 3) := by decide +kernel
theorem dX1_tintWithFewest_50 : decode cX1_tintWithFewest 50 = .ok (.iload_n 2, 1) := by decide +kernel
theorem dX1_tintWithFewest_51 : decode cX1_tintWithFewest 51 = .ok (.iaload, 1) := by decide +kernel
theorem dX1_tintWithFewest_52 : decode cX1_tintWithFewest 52 = .ok (.iload_n 1, 1) := by decide +kernel
theorem dX1_tintWithFewest_53 : decode cX1_tintWithFewest 53 = .ok (.if_icmp .gt 24, 3) := by decide +kernel
theorem dX1_tintWithFewest_56 : decode cX1_tintWithFewest 56 = .ok (.aload_n 0, 1) := by decide +kernel
theorem dX1_tintWithFewest_57 : decode cX1_tintWithFewest 57 = .ok (.iload_n 2, 1) := by decide +kernel
theorem dX1_tintWithFewest_58 : decode cX1_tintWithFewest 58 = .ok (.invokevirtual 127, 3) := by decide +kernel
theorem dX1_tintWithFewest_61 : decode cX1_tintWithFewest 61 = .ok (.ifCond .ne 16, 3) := by decide +kernel
theorem dX1_tintWithFewest_64 : decode cX1_tintWithFewest 64 = .ok (.aload_n 0, 1) := by decide +kernel
theorem dX1_tintWithFewest_65 : decode cX1_tintWithFewest 65 = .ok (.getfield 13, 3) := by decide +kernel
theorem dX1_tintWithFewest_68 : decode cX1_tintWithFewest 68 = .ok (.iload_n 2, 1) := by decide +kernel
theorem dX1_tintWithFewest_69 : decode cX1_tintWithFewest 69 = .ok (.dup2, 1) := by decide +kernel
theorem dX1_tintWithFewest_70 : decode cX1_tintWithFewest 70 = .ok (.iaload, 1) := by decide +kernel
theorem dX1_tintWithFewest_71 : decode cX1_tintWithFewest 71 = .ok (.iconst 1, 1) := by decide +kernel
theorem dX1_tintWithFewest_72 : decode cX1_tintWithFewest 72 = .ok (.iadd, 1) := by decide +kernel
theorem dX1_tintWithFewest_73 : decode cX1_tintWithFewest 73 = .ok (.iastore, 1) := by decide +kernel
theorem dX1_tintWithFewest_74 : decode cX1_tintWithFewest 74 = .ok (.goto (-28), 3) := by decide +kernel
theorem dX1_tintWithFewest_77 : decode cX1_tintWithFewest 77 = .ok (.aload_n 0, 1) := by decide +kernel
theorem dX1_tintWithFewest_78 : decode cX1_tintWithFewest 78 = .ok (.getfield 13, 3) := by decide +kernel
theorem dX1_tintWithFewest_81 : decode cX1_tintWithFewest 81 = .ok (.iload_n 2, 1) := by decide +kernel
theorem dX1_tintWithFewest_82 : decode cX1_tintWithFewest 82 = .ok (.iaload, 1) := by decide +kernel
theorem dX1_tintWithFewest_83 : decode cX1_tintWithFewest 83 = .ok (.iload_n 1, 1) := by decide +kernel
theorem dX1_tintWithFewest_84 : decode cX1_tintWithFewest 84 = .ok (.if_icmp .gt 7, 3) := by decide +kernel
theorem dX1_tintWithFewest_87 : decode cX1_tintWithFewest 87 = .ok (.iconst 1, 1) := by decide +kernel
theorem dX1_tintWithFewest_88 : decode cX1_tintWithFewest 88 = .ok (.goto 4, 3) := by decide +kernel
theorem dX1_tintWithFewest_91 : decode cX1_tintWithFewest 91 = .ok (.iconst 0, 1) := by decide +kernel
theorem dX1_tintWithFewest_92 : decode cX1_tintWithFewest 92 = .ok (.istore_n 3, 1) := by decide +kernel
theorem dX1_tintWithFewest_93 : decode cX1_tintWithFewest 93 = .ok (.aload_n 0, 1) := by decide +kernel
theorem dX1_tintWithFewest_94 : decode cX1_tintWithFewest 94 = .ok (.iload_n 2, 1) := by decide +kernel
theorem dX1_tintWithFewest_95 : decode cX1_tintWithFewest 95 = .ok (.iload_n 3, 1) := by decide +kernel
theorem dX1_tintWithFewest_96 : decode cX1_tintWithFewest 96 = .ok (.ifCond .eq 7, 3) := by decide +kernel
theorem dX1_tintWithFewest_99 : decode cX1_tintWithFewest 99 = .ok (.iconst 1, 1) := by decide +kernel
theorem dX1_tintWithFewest_100 : decode cX1_tintWithFewest 100 = .ok (.goto 4, 3) := by decide +kernel
theorem dX1_tintWithFewest_103 : decode cX1_tintWithFewest 103 = .ok (.iconst (-1), 1) := by decide +kernel
theorem dX1_tintWithFewest_104 : decode cX1_tintWithFewest 104 = .ok (.invokevirtual 124, 3) := by decide +kernel
theorem dX1_tintWithFewest_107 : decode cX1_tintWithFewest 107 = .ok (.istore_n 2, 1) := by decide +kernel
theorem dX1_tintWithFewest_108 : decode cX1_tintWithFewest 108 = .ok (.iload_n 3, 1) := by decide +kernel
theorem dX1_tintWithFewest_109 : decode cX1_tintWithFewest 109 = .ok (.ifCond .eq 16, 3) := by decide +kernel
theorem dX1_tintWithFewest_112 : decode cX1_tintWithFewest 112 = .ok (.iload_n 2, 1) := by decide +kernel
theorem dX1_tintWithFewest_113 : decode cX1_tintWithFewest 113 = .ok (.bipush 10, 2) := by decide +kernel
theorem dX1_tintWithFewest_115 : decode cX1_tintWithFewest 115 = .ok (.if_icmp .ge 10, 3) := by decide +kernel
theorem dX1_tintWithFewest_118 : decode cX1_tintWithFewest 118 = .ok (.aload_n 0, 1) := by decide +kernel
theorem dX1_tintWithFewest_119 : decode cX1_tintWithFewest 119 = .ok (.getfield 13, 3) := by decide +kernel
theorem dX1_tintWithFewest_122 : decode cX1_tintWithFewest 122 = .ok (.iload_n 2, 1) := by decide +kernel
theorem dX1_tintWithFewest_123 : decode cX1_tintWithFewest 123 = .ok (.iconst 0, 1) := by decide +kernel
theorem dX1_tintWithFewest_124 : decode cX1_tintWithFewest 124 = .ok (.iastore, 1) := by decide +kernel
theorem dX1_tintWithFewest_125 : decode cX1_tintWithFewest 125 = .ok (.goto (-95), 3) := by decide +kernel
theorem dX1_tintWithFewest_128 : decode cX1_tintWithFewest 128 = .ok (.iload_n 1, 1) := by decide +kernel
theorem dX1_tintWithFewest_129 : decode cX1_tintWithFewest 129 = .ok (.ireturn, 1) := by decide +kernel
set_option maxRecDepth 20000 in
theorem ggX1_count_X1_in : GoodIn wsX1_count wsX1_in := goodIn_r _ [6] (by decide +kernel) (by decide +kernel)
set_option maxRecDepth 20000 in
theorem gX1_count_X1_in : GoodIn wsX1_count (va_wsS RX1 33 yX1_in wsX1_in) := goodIn_app (goodIn_of _ (by decide +kernel)) ggX1_count_X1_in
set_option maxRecDepth 20000 in
theorem ggX1_count_X1_goes : GoodIn wsX1_count wsX1_goes := goodIn_r _ [10, 11, 38, 39, 40, 41, 42, 43, 44, 45] (by decide +kernel) (by decide +kernel)
set_option maxRecDepth 20000 in
theorem gX1_count_X1_goes : GoodIn wsX1_count (wsV RX1 58 RX1 yX1_goes wsX1_goes) := goodIn_app (goodIn_of _ (by decide +kernel)) ggX1_count_X1_goes
set_option maxRecDepth 20000 in
theorem ggX1_count_X1_begins : GoodIn wsX1_count wsX1_begins := goodIn_r _ [15, 1, 16, 17, 18, 5, 19, 2, 20, 21, 22, 23, 24, 25, 26, 27, 28, 38, 39, 40, 41, 42, 43, 44, 45] (by decide +kernel) (by decide +kernel)
set_option maxRecDepth 20000 in
theorem gX1_count_X1_begins : GoodIn wsX1_count (wsV RX1 115 RX1 yX1_begins wsX1_begins) := goodIn_app (goodIn_of _ (by decide +kernel)) ggX1_count_X1_begins
set_option maxRecDepth 20000 in
theorem ggX1_count_X1_adds : GoodIn wsX1_count wsX1_adds := goodIn_r _ [32, 33, 2, 1, 34, 35, 36, 5, 37, 22, 38, 39, 40, 41, 42, 43, 44, 45] (by decide +kernel) (by decide +kernel)
set_option maxRecDepth 20000 in
theorem gX1_count_X1_adds : GoodIn wsX1_count (wsV RX1 118 RX1 yX1_adds wsX1_adds) := goodIn_app (goodIn_of _ (by decide +kernel)) ggX1_count_X1_adds
theorem dX1_count_0 : decode cX1_count 0 = .ok (.aload_n 0, 1) := by decide +kernel
theorem dX1_count_1 : decode cX1_count 1 = .ok (.iload_n 1, 1) := by decide +kernel
theorem dX1_count_2 : decode cX1_count 2 = .ok (.iconst 0, 1) := by decide +kernel
theorem dX1_count_3 : decode cX1_count 3 = .ok (.bipush 10, 2) := by decide +kernel
theorem dX1_count_5 : decode cX1_count 5 = .ok (.invokestatic 33, 3) := by decide +kernel
theorem dX1_count_8 : decode cX1_count 8 = .ok (.iconst 1, 1) := by decide +kernel
theorem dX1_count_9 : decode cX1_count 9 = .ok (.iconst 1, 1) := by decide +kernel
theorem dX1_count_10 : decode cX1_count 10 = .ok (.invokevirtual 58, 3) := by decide +kernel
theorem dX1_count_13 : decode cX1_count 13 = .ok (.ifCond .ne 5, 3) := by decide +kernel
theorem dX1_count_16 : decode cX1_count 16 = .ok (.lconst 0, 1) := by decide +kernel
theorem dX1_count_17 : decode cX1_count 17 = .ok (.lreturn, 1) := by decide +kernel
theorem dX1_count_18 : decode cX1_count 18 = .ok (.aload_n 0, 1) := by decide +kernel
theorem dX1_count_19 : decode cX1_count 19 = .ok (.invokevirtual 115, 3) := by decide +kernel
theorem dX1_count_22 : decode cX1_count 22 = .ok (.iconst 0, 1) := by decide +kernel
theorem dX1_count_23 : decode cX1_count 23 = .ok (.istore_n 2, 1) := by decide +kernel
theorem dX1_count_24 : decode cX1_count 24 = .ok (.iload_n 2, 1) := by decide +kernel
theorem dX1_count_25 : decode cX1_count 25 = .ok (.iload_n 1, 1) := by decide +kernel
theorem dX1_count_26 : decode cX1_count 26 = .ok (.if_icmp .ge 13, 3) := by decide +kernel
theorem dX1_count_29 : decode cX1_count 29 = .ok (.aload_n 0, 1) := by decide +kernel
theorem dX1_count_30 : decode cX1_count 30 = .ok (.invokevirtual 118, 3) := by decide +kernel
theorem dX1_count_33 : decode cX1_count 33 = .ok (.iinc 2 1, 3) := by decide +kernel
theorem dX1_count_36 : decode cX1_count 36 = .ok (.goto (-12), 3) := by decide +kernel
theorem dX1_count_39 : decode cX1_count 39 = .ok (.aload_n 0, 1) := by decide +kernel
theorem dX1_count_40 : decode cX1_count 40 = .ok (.getfield 23, 3) := by decide +kernel
theorem dX1_count_43 : decode cX1_count 43 = .ok (.aload_n 0, 1) := by decide +kernel
theorem dX1_count_44 : decode cX1_count 44 = .ok (.getfield 47, 3) := by decide +kernel
theorem dX1_count_47 : decode cX1_count 47 = .ok (.laload, 1) := by decide +kernel
theorem dX1_count_48 : decode cX1_count 48 = .ok (.lreturn, 1) := by decide +kernel
set_option maxRecDepth 20000 in
theorem ggX1_tintings_X1_count : GoodIn wsX1_tintings wsX1_count := goodIn_r _ [5, 6, 7, 8, 9, 4, 10, 11, 12, 13, 14, 15, 16, 17, 18, 19, 20, 21, 22, 23, 24, 25, 26, 27, 28, 29, 30, 31, 32, 33, 34, 35, 36, 37, 38, 39, 40, 41, 42, 43, 44, 45, 46, 47, 48, 49] (by decide +kernel) (by decide +kernel)
set_option maxRecDepth 20000 in
theorem gX1_tintings_X1_count : GoodIn wsX1_tintings (wsV RX1 130 RX1 yX1_count wsX1_count) := goodIn_app (goodIn_of _ (by decide +kernel)) ggX1_tintings_X1_count
theorem dX1_tintings_0 : decode cX1_tintings 0 = .ok (.aload_n 0, 1) := by decide +kernel
theorem dX1_tintings_1 : decode cX1_tintings 1 = .ok (.iload_n 1, 1) := by decide +kernel
theorem dX1_tintings_2 : decode cX1_tintings 2 = .ok (.invokevirtual 130, 3) := by decide +kernel
theorem dX1_tintings_5 : decode cX1_tintings 5 = .ok (.lreturn, 1) := by decide +kernel
set_option maxRecDepth 20000 in
theorem ggX1_tintingsByPairs_X1_count : GoodIn wsX1_tintingsByPairs wsX1_count := goodIn_r _ [5, 6, 7, 8, 9, 4, 10, 11, 12, 13, 14, 15, 16, 17, 18, 19, 20, 21, 22, 23, 24, 25, 26, 27, 28, 29, 30, 31, 32, 33, 34, 35, 36, 37, 38, 39, 40, 41, 42, 43, 44, 45, 46, 47, 48, 49] (by decide +kernel) (by decide +kernel)
set_option maxRecDepth 20000 in
theorem gX1_tintingsByPairs_X1_count : GoodIn wsX1_tintingsByPairs (wsV RX1 130 RX1 yX1_count wsX1_count) := goodIn_app (goodIn_of _ (by decide +kernel)) ggX1_tintingsByPairs_X1_count
theorem dX1_tintingsByPairs_0 : decode cX1_tintingsByPairs 0 = .ok (.aload_n 0, 1) := by decide +kernel
theorem dX1_tintingsByPairs_1 : decode cX1_tintingsByPairs 1 = .ok (.iload_n 1, 1) := by decide +kernel
theorem dX1_tintingsByPairs_2 : decode cX1_tintingsByPairs 2 = .ok (.invokevirtual 130, 3) := by decide +kernel
theorem dX1_tintingsByPairs_5 : decode cX1_tintingsByPairs 5 = .ok (.lreturn, 1) := by decide +kernel
theorem dJ6_bitCount_0f7a4_0 : decode cJ6_bitCount_0f7a4 0 = .ok (.iload_n 0, 1) := by decide +kernel
theorem dJ6_bitCount_0f7a4_1 : decode cJ6_bitCount_0f7a4 1 = .ok (.iload_n 0, 1) := by decide +kernel
theorem dJ6_bitCount_0f7a4_2 : decode cJ6_bitCount_0f7a4 2 = .ok (.iconst 1, 1) := by decide +kernel
theorem dJ6_bitCount_0f7a4_3 : decode cJ6_bitCount_0f7a4 3 = .ok (.iushr, 1) := by decide +kernel
theorem dJ6_bitCount_0f7a4_4 : decode cJ6_bitCount_0f7a4 4 = .ok (.ldc_w 265, 3) := by decide +kernel
theorem dJ6_bitCount_0f7a4_7 : decode cJ6_bitCount_0f7a4 7 = .ok (.iand, 1) := by decide +kernel
theorem dJ6_bitCount_0f7a4_8 : decode cJ6_bitCount_0f7a4 8 = .ok (.isub, 1) := by decide +kernel
theorem dJ6_bitCount_0f7a4_9 : decode cJ6_bitCount_0f7a4 9 = .ok (.istore_n 0, 1) := by decide +kernel
theorem dJ6_bitCount_0f7a4_10 : decode cJ6_bitCount_0f7a4 10 = .ok (.iload_n 0, 1) := by decide +kernel
theorem dJ6_bitCount_0f7a4_11 : decode cJ6_bitCount_0f7a4 11 = .ok (.ldc_w 266, 3) := by decide +kernel
theorem dJ6_bitCount_0f7a4_14 : decode cJ6_bitCount_0f7a4 14 = .ok (.iand, 1) := by decide +kernel
theorem dJ6_bitCount_0f7a4_15 : decode cJ6_bitCount_0f7a4 15 = .ok (.iload_n 0, 1) := by decide +kernel
theorem dJ6_bitCount_0f7a4_16 : decode cJ6_bitCount_0f7a4 16 = .ok (.iconst 2, 1) := by decide +kernel
theorem dJ6_bitCount_0f7a4_17 : decode cJ6_bitCount_0f7a4 17 = .ok (.iushr, 1) := by decide +kernel
theorem dJ6_bitCount_0f7a4_18 : decode cJ6_bitCount_0f7a4 18 = .ok (.ldc_w 266, 3) := by decide +kernel
theorem dJ6_bitCount_0f7a4_21 : decode cJ6_bitCount_0f7a4 21 = .ok (.iand, 1) := by decide +kernel
theorem dJ6_bitCount_0f7a4_22 : decode cJ6_bitCount_0f7a4 22 = .ok (.iadd, 1) := by decide +kernel
theorem dJ6_bitCount_0f7a4_23 : decode cJ6_bitCount_0f7a4 23 = .ok (.istore_n 0, 1) := by decide +kernel
theorem dJ6_bitCount_0f7a4_24 : decode cJ6_bitCount_0f7a4 24 = .ok (.iload_n 0, 1) := by decide +kernel
theorem dJ6_bitCount_0f7a4_25 : decode cJ6_bitCount_0f7a4 25 = .ok (.iload_n 0, 1) := by decide +kernel
theorem dJ6_bitCount_0f7a4_26 : decode cJ6_bitCount_0f7a4 26 = .ok (.iconst 4, 1) := by decide +kernel
theorem dJ6_bitCount_0f7a4_27 : decode cJ6_bitCount_0f7a4 27 = .ok (.iushr, 1) := by decide +kernel
theorem dJ6_bitCount_0f7a4_28 : decode cJ6_bitCount_0f7a4 28 = .ok (.iadd, 1) := by decide +kernel
theorem dJ6_bitCount_0f7a4_29 : decode cJ6_bitCount_0f7a4 29 = .ok (.ldc_w 267, 3) := by decide +kernel
theorem dJ6_bitCount_0f7a4_32 : decode cJ6_bitCount_0f7a4 32 = .ok (.iand, 1) := by decide +kernel
theorem dJ6_bitCount_0f7a4_33 : decode cJ6_bitCount_0f7a4 33 = .ok (.istore_n 0, 1) := by decide +kernel
theorem dJ6_bitCount_0f7a4_34 : decode cJ6_bitCount_0f7a4 34 = .ok (.iload_n 0, 1) := by decide +kernel
theorem dJ6_bitCount_0f7a4_35 : decode cJ6_bitCount_0f7a4 35 = .ok (.iload_n 0, 1) := by decide +kernel
theorem dJ6_bitCount_0f7a4_36 : decode cJ6_bitCount_0f7a4 36 = .ok (.bipush 8, 2) := by decide +kernel
theorem dJ6_bitCount_0f7a4_38 : decode cJ6_bitCount_0f7a4 38 = .ok (.iushr, 1) := by decide +kernel
theorem dJ6_bitCount_0f7a4_39 : decode cJ6_bitCount_0f7a4 39 = .ok (.iadd, 1) := by decide +kernel
theorem dJ6_bitCount_0f7a4_40 : decode cJ6_bitCount_0f7a4 40 = .ok (.istore_n 0, 1) := by decide +kernel
theorem dJ6_bitCount_0f7a4_41 : decode cJ6_bitCount_0f7a4 41 = .ok (.iload_n 0, 1) := by decide +kernel
theorem dJ6_bitCount_0f7a4_42 : decode cJ6_bitCount_0f7a4 42 = .ok (.iload_n 0, 1) := by decide +kernel
theorem dJ6_bitCount_0f7a4_43 : decode cJ6_bitCount_0f7a4 43 = .ok (.bipush 16, 2) := by decide +kernel
theorem dJ6_bitCount_0f7a4_45 : decode cJ6_bitCount_0f7a4 45 = .ok (.iushr, 1) := by decide +kernel
theorem dJ6_bitCount_0f7a4_46 : decode cJ6_bitCount_0f7a4 46 = .ok (.iadd, 1) := by decide +kernel
theorem dJ6_bitCount_0f7a4_47 : decode cJ6_bitCount_0f7a4 47 = .ok (.istore_n 0, 1) := by decide +kernel
theorem dJ6_bitCount_0f7a4_48 : decode cJ6_bitCount_0f7a4 48 = .ok (.iload_n 0, 1) := by decide +kernel
theorem dJ6_bitCount_0f7a4_49 : decode cJ6_bitCount_0f7a4 49 = .ok (.bipush 63, 2) := by decide +kernel
theorem dJ6_bitCount_0f7a4_51 : decode cJ6_bitCount_0f7a4 51 = .ok (.iand, 1) := by decide +kernel
theorem dJ6_bitCount_0f7a4_52 : decode cJ6_bitCount_0f7a4 52 = .ok (.ireturn, 1) := by decide +kernel
theorem dJ13_bitCount_95d88_0 : decode cJ13_bitCount_95d88 0 = .ok (.lload_n 0, 1) := by decide +kernel
theorem dJ13_bitCount_95d88_1 : decode cJ13_bitCount_95d88 1 = .ok (.lload_n 0, 1) := by decide +kernel
theorem dJ13_bitCount_95d88_2 : decode cJ13_bitCount_95d88 2 = .ok (.iconst 1, 1) := by decide +kernel
theorem dJ13_bitCount_95d88_3 : decode cJ13_bitCount_95d88 3 = .ok (.lushr, 1) := by decide +kernel
theorem dJ13_bitCount_95d88_4 : decode cJ13_bitCount_95d88 4 = .ok (.ldc2_w 314, 3) := by decide +kernel
theorem dJ13_bitCount_95d88_7 : decode cJ13_bitCount_95d88 7 = .ok (.land, 1) := by decide +kernel
theorem dJ13_bitCount_95d88_8 : decode cJ13_bitCount_95d88 8 = .ok (.lsub, 1) := by decide +kernel
theorem dJ13_bitCount_95d88_9 : decode cJ13_bitCount_95d88 9 = .ok (.lstore_n 0, 1) := by decide +kernel
theorem dJ13_bitCount_95d88_10 : decode cJ13_bitCount_95d88 10 = .ok (.lload_n 0, 1) := by decide +kernel
theorem dJ13_bitCount_95d88_11 : decode cJ13_bitCount_95d88 11 = .ok (.ldc2_w 316, 3) := by decide +kernel
theorem dJ13_bitCount_95d88_14 : decode cJ13_bitCount_95d88 14 = .ok (.land, 1) := by decide +kernel
theorem dJ13_bitCount_95d88_15 : decode cJ13_bitCount_95d88 15 = .ok (.lload_n 0, 1) := by decide +kernel
theorem dJ13_bitCount_95d88_16 : decode cJ13_bitCount_95d88 16 = .ok (.iconst 2, 1) := by decide +kernel
theorem dJ13_bitCount_95d88_17 : decode cJ13_bitCount_95d88 17 = .ok (.lushr, 1) := by decide +kernel
theorem dJ13_bitCount_95d88_18 : decode cJ13_bitCount_95d88 18 = .ok (.ldc2_w 316, 3) := by decide +kernel
theorem dJ13_bitCount_95d88_21 : decode cJ13_bitCount_95d88 21 = .ok (.land, 1) := by decide +kernel
theorem dJ13_bitCount_95d88_22 : decode cJ13_bitCount_95d88 22 = .ok (.ladd, 1) := by decide +kernel
theorem dJ13_bitCount_95d88_23 : decode cJ13_bitCount_95d88 23 = .ok (.lstore_n 0, 1) := by decide +kernel
theorem dJ13_bitCount_95d88_24 : decode cJ13_bitCount_95d88 24 = .ok (.lload_n 0, 1) := by decide +kernel
theorem dJ13_bitCount_95d88_25 : decode cJ13_bitCount_95d88 25 = .ok (.lload_n 0, 1) := by decide +kernel
theorem dJ13_bitCount_95d88_26 : decode cJ13_bitCount_95d88 26 = .ok (.iconst 4, 1) := by decide +kernel
theorem dJ13_bitCount_95d88_27 : decode cJ13_bitCount_95d88 27 = .ok (.lushr, 1) := by decide +kernel
theorem dJ13_bitCount_95d88_28 : decode cJ13_bitCount_95d88 28 = .ok (.ladd, 1) := by decide +kernel
theorem dJ13_bitCount_95d88_29 : decode cJ13_bitCount_95d88 29 = .ok (.ldc2_w 318, 3) := by decide +kernel
theorem dJ13_bitCount_95d88_32 : decode cJ13_bitCount_95d88 32 = .ok (.land, 1) := by decide +kernel
theorem dJ13_bitCount_95d88_33 : decode cJ13_bitCount_95d88 33 = .ok (.lstore_n 0, 1) := by decide +kernel
theorem dJ13_bitCount_95d88_34 : decode cJ13_bitCount_95d88 34 = .ok (.lload_n 0, 1) := by decide +kernel
theorem dJ13_bitCount_95d88_35 : decode cJ13_bitCount_95d88 35 = .ok (.lload_n 0, 1) := by decide +kernel
theorem dJ13_bitCount_95d88_36 : decode cJ13_bitCount_95d88 36 = .ok (.bipush 8, 2) := by decide +kernel
theorem dJ13_bitCount_95d88_38 : decode cJ13_bitCount_95d88 38 = .ok (.lushr, 1) := by decide +kernel
theorem dJ13_bitCount_95d88_39 : decode cJ13_bitCount_95d88 39 = .ok (.ladd, 1) := by decide +kernel
theorem dJ13_bitCount_95d88_40 : decode cJ13_bitCount_95d88 40 = .ok (.lstore_n 0, 1) := by decide +kernel
theorem dJ13_bitCount_95d88_41 : decode cJ13_bitCount_95d88 41 = .ok (.lload_n 0, 1) := by decide +kernel
theorem dJ13_bitCount_95d88_42 : decode cJ13_bitCount_95d88 42 = .ok (.lload_n 0, 1) := by decide +kernel
theorem dJ13_bitCount_95d88_43 : decode cJ13_bitCount_95d88 43 = .ok (.bipush 16, 2) := by decide +kernel
theorem dJ13_bitCount_95d88_45 : decode cJ13_bitCount_95d88 45 = .ok (.lushr, 1) := by decide +kernel
theorem dJ13_bitCount_95d88_46 : decode cJ13_bitCount_95d88 46 = .ok (.ladd, 1) := by decide +kernel
theorem dJ13_bitCount_95d88_47 : decode cJ13_bitCount_95d88 47 = .ok (.lstore_n 0, 1) := by decide +kernel
theorem dJ13_bitCount_95d88_48 : decode cJ13_bitCount_95d88 48 = .ok (.lload_n 0, 1) := by decide +kernel
theorem dJ13_bitCount_95d88_49 : decode cJ13_bitCount_95d88 49 = .ok (.lload_n 0, 1) := by decide +kernel
theorem dJ13_bitCount_95d88_50 : decode cJ13_bitCount_95d88 50 = .ok (.bipush 32, 2) := by decide +kernel
theorem dJ13_bitCount_95d88_52 : decode cJ13_bitCount_95d88 52 = .ok (.lushr, 1) := by decide +kernel
theorem dJ13_bitCount_95d88_53 : decode cJ13_bitCount_95d88 53 = .ok (.ladd, 1) := by decide +kernel
theorem dJ13_bitCount_95d88_54 : decode cJ13_bitCount_95d88 54 = .ok (.lstore_n 0, 1) := by decide +kernel
theorem dJ13_bitCount_95d88_55 : decode cJ13_bitCount_95d88 55 = .ok (.lload_n 0, 1) := by decide +kernel
theorem dJ13_bitCount_95d88_56 : decode cJ13_bitCount_95d88 56 = .ok (.l2i, 1) := by decide +kernel
theorem dJ13_bitCount_95d88_57 : decode cJ13_bitCount_95d88 57 = .ok (.bipush 127, 2) := by decide +kernel
theorem dJ13_bitCount_95d88_59 : decode cJ13_bitCount_95d88 59 = .ok (.iand, 1) := by decide +kernel
theorem dJ13_bitCount_95d88_60 : decode cJ13_bitCount_95d88 60 = .ok (.ireturn, 1) := by decide +kernel
theorem dJ9_max_7cf53_0 : decode cJ9_max_7cf53 0 = .ok (.iload_n 0, 1) := by decide +kernel
theorem dJ9_max_7cf53_1 : decode cJ9_max_7cf53 1 = .ok (.iload_n 1, 1) := by decide +kernel
theorem dJ9_max_7cf53_2 : decode cJ9_max_7cf53 2 = .ok (.if_icmp .lt 7, 3) := by decide +kernel
theorem dJ9_max_7cf53_5 : decode cJ9_max_7cf53 5 = .ok (.iload_n 0, 1) := by decide +kernel
theorem dJ9_max_7cf53_6 : decode cJ9_max_7cf53 6 = .ok (.goto 4, 3) := by decide +kernel
theorem dJ9_max_7cf53_9 : decode cJ9_max_7cf53 9 = .ok (.iload_n 1, 1) := by decide +kernel
theorem dJ9_max_7cf53_10 : decode cJ9_max_7cf53 10 = .ok (.ireturn, 1) := by decide +kernel
theorem dJ7_fill_d0a16_0 : decode cJ7_fill_d0a16 0 = .ok (.iconst 0, 1) := by decide +kernel
theorem dJ7_fill_d0a16_1 : decode cJ7_fill_d0a16 1 = .ok (.istore_n 3, 1) := by decide +kernel
theorem dJ7_fill_d0a16_2 : decode cJ7_fill_d0a16 2 = .ok (.aload_n 0, 1) := by decide +kernel
theorem dJ7_fill_d0a16_3 : decode cJ7_fill_d0a16 3 = .ok (.arraylength, 1) := by decide +kernel
theorem dJ7_fill_d0a16_4 : decode cJ7_fill_d0a16 4 = .ok (.istore 4, 2) := by decide +kernel
theorem dJ7_fill_d0a16_6 : decode cJ7_fill_d0a16 6 = .ok (.iload_n 3, 1) := by decide +kernel
theorem dJ7_fill_d0a16_7 : decode cJ7_fill_d0a16 7 = .ok (.iload 4, 2) := by decide +kernel
theorem dJ7_fill_d0a16_9 : decode cJ7_fill_d0a16 9 = .ok (.if_icmp .ge 13, 3) := by decide +kernel
theorem dJ7_fill_d0a16_12 : decode cJ7_fill_d0a16 12 = .ok (.aload_n 0, 1) := by decide +kernel
theorem dJ7_fill_d0a16_13 : decode cJ7_fill_d0a16 13 = .ok (.iload_n 3, 1) := by decide +kernel
theorem dJ7_fill_d0a16_14 : decode cJ7_fill_d0a16 14 = .ok (.lload_n 1, 1) := by decide +kernel
theorem dJ7_fill_d0a16_15 : decode cJ7_fill_d0a16 15 = .ok (.lastore, 1) := by decide +kernel
theorem dJ7_fill_d0a16_16 : decode cJ7_fill_d0a16 16 = .ok (.iinc 3 1, 3) := by decide +kernel
theorem dJ7_fill_d0a16_19 : decode cJ7_fill_d0a16 19 = .ok (.goto (-13), 3) := by decide +kernel
theorem dJ7_fill_d0a16_22 : decode cJ7_fill_d0a16 22 = .ok (.return_, 1) := by decide +kernel
set_option maxRecDepth 20000 in
theorem ggL_paint_X0_paint : GoodIn wsL_paint wsX0_paint := goodIn_ca (goodIn_ca (goodIn_r _ [7, 8, 9, 6, 10, 11, 12, 13, 14, 15, 16, 17, 18, 19, 20, 21, 22, 23, 24, 25, 26, 27, 28, 29, 30, 31, 32, 33, 34, 35, 36, 37, 38, 39, 40, 41, 42, 43, 44, 45, 46, 47, 48, 49, 50, 51, 52, 53, 54, 55, 56, 57, 58, 59, 60, 61, 62, 63, 64, 65, 66] (by decide +kernel) (by decide +kernel)) (goodIn_sub (fun _ h => List.mem_cons_of_mem _ (List.mem_append_left _ (List.mem_append_right _ h))) (by decide +kernel))) (goodIn_sub (fun _ h => List.mem_cons_of_mem _ (List.mem_append_right _ h)) (by decide +kernel))
set_option maxRecDepth 20000 in
theorem gL_paint_X0_paint : GoodIn wsL_paint (wsV RL 7 RX0 yX0_paint wsX0_paint) := goodIn_app (goodIn_of _ (by decide +kernel)) ggL_paint_X0_paint
theorem dL_paint_0 : decode cL_paint 0 = .ok (.aload 4, 2) := by decide +kernel
theorem dL_paint_2 : decode cL_paint 2 = .ok (.iconst 0, 1) := by decide +kernel
theorem dL_paint_3 : decode cL_paint 3 = .ok (.aload_n 0, 1) := by decide +kernel
theorem dL_paint_4 : decode cL_paint 4 = .ok (.iload_n 1, 1) := by decide +kernel
theorem dL_paint_5 : decode cL_paint 5 = .ok (.iload_n 2, 1) := by decide +kernel
theorem dL_paint_6 : decode cL_paint 6 = .ok (.iload_n 3, 1) := by decide +kernel
theorem dL_paint_7 : decode cL_paint 7 = .ok (.invokevirtual 7, 3) := by decide +kernel
theorem dL_paint_10 : decode cL_paint 10 = .ok (.i2l, 1) := by decide +kernel
theorem dL_paint_11 : decode cL_paint 11 = .ok (.lastore, 1) := by decide +kernel
theorem dL_paint_12 : decode cL_paint 12 = .ok (.goto 11, 3) := by decide +kernel
theorem dL_paint_15 : decode cL_paint 15 = .ok (.astore 5, 2) := by decide +kernel
theorem dL_paint_17 : decode cL_paint 17 = .ok (.iconst 1, 1) := by decide +kernel
theorem dL_paint_18 : decode cL_paint 18 = .ok (.ireturn, 1) := by decide +kernel
theorem dL_paint_19 : decode cL_paint 19 = .ok (.astore 5, 2) := by decide +kernel
theorem dL_paint_21 : decode cL_paint 21 = .ok (.iconst 2, 1) := by decide +kernel
theorem dL_paint_22 : decode cL_paint 22 = .ok (.ireturn, 1) := by decide +kernel
theorem dL_paint_23 : decode cL_paint 23 = .ok (.iconst 0, 1) := by decide +kernel
theorem dL_paint_24 : decode cL_paint 24 = .ok (.ireturn, 1) := by decide +kernel
set_option maxRecDepth 20000 in
theorem ggL_paintBlock_X0_paintBlock : GoodIn wsL_paintBlock wsX0_paintBlock := goodIn_ca (goodIn_ca (goodIn_r _ [7, 8, 9, 10, 11, 12, 6, 13, 14, 15, 16, 17, 18, 19, 20, 21, 22, 23, 24, 25, 26, 27, 28, 29, 30, 31, 32, 33, 34, 35, 36, 37, 38, 39, 40, 41, 42, 43, 44, 45, 46, 47, 48, 49, 50, 51, 52, 53, 54, 55, 56, 57, 58, 59, 60, 61, 62, 63, 64, 65, 66, 67, 68, 69, 70, 71, 72, 73] (by decide +kernel) (by decide +kernel)) (goodIn_sub (fun _ h => List.mem_cons_of_mem _ (List.mem_append_left _ (List.mem_append_right _ h))) (by decide +kernel))) (goodIn_sub (fun _ h => List.mem_cons_of_mem _ (List.mem_append_right _ h)) (by decide +kernel))
set_option maxRecDepth 20000 in
theorem gL_paintBlock_X0_paintBlock : GoodIn wsL_paintBlock (wsV RL 17 RX0 yX0_paintBlock wsX0_paintBlock) := goodIn_app (goodIn_of _ (by decide +kernel)) ggL_paintBlock_X0_paintBlock
theorem dL_paintBlock_0 : decode cL_paintBlock 0 = .ok (.aload 6, 2) := by decide +kernel
theorem dL_paintBlock_2 : decode cL_paintBlock 2 = .ok (.iconst 0, 1) := by decide +kernel
theorem dL_paintBlock_3 : decode cL_paintBlock 3 = .ok (.aload_n 0, 1) := by decide +kernel
theorem dL_paintBlock_4 : decode cL_paintBlock 4 = .ok (.iload_n 1, 1) := by decide +kernel
theorem dL_paintBlock_5 : decode cL_paintBlock 5 = .ok (.iload_n 2, 1) := by decide +kernel
theorem dL_paintBlock_6 : decode cL_paintBlock 6 = .ok (.iload_n 3, 1) := by decide +kernel
theorem dL_paintBlock_7 : decode cL_paintBlock 7 = .ok (.iload 4, 2) := by decide +kernel
theorem dL_paintBlock_9 : decode cL_paintBlock 9 = .ok (.iload 5, 2) := by decide +kernel
theorem dL_paintBlock_11 : decode cL_paintBlock 11 = .ok (.invokevirtual 17, 3) := by decide +kernel
theorem dL_paintBlock_14 : decode cL_paintBlock 14 = .ok (.i2l, 1) := by decide +kernel
theorem dL_paintBlock_15 : decode cL_paintBlock 15 = .ok (.lastore, 1) := by decide +kernel
theorem dL_paintBlock_16 : decode cL_paintBlock 16 = .ok (.goto 11, 3) := by decide +kernel
theorem dL_paintBlock_19 : decode cL_paintBlock 19 = .ok (.astore 7, 2) := by decide +kernel
theorem dL_paintBlock_21 : decode cL_paintBlock 21 = .ok (.iconst 1, 1) := by decide +kernel
theorem dL_paintBlock_22 : decode cL_paintBlock 22 = .ok (.ireturn, 1) := by decide +kernel
theorem dL_paintBlock_23 : decode cL_paintBlock 23 = .ok (.astore 7, 2) := by decide +kernel
theorem dL_paintBlock_25 : decode cL_paintBlock 25 = .ok (.iconst 2, 1) := by decide +kernel
theorem dL_paintBlock_26 : decode cL_paintBlock 26 = .ok (.ireturn, 1) := by decide +kernel
theorem dL_paintBlock_27 : decode cL_paintBlock 27 = .ok (.iconst 0, 1) := by decide +kernel
theorem dL_paintBlock_28 : decode cL_paintBlock 28 = .ok (.ireturn, 1) := by decide +kernel
set_option maxRecDepth 20000 in
theorem ggL_countryAt_X0_countryAt : GoodIn wsL_countryAt wsX0_countryAt := goodIn_ca (goodIn_r _ [6, 7, 8, 5, 9, 10, 11, 12, 13, 14, 15, 16, 17, 18, 19, 20, 21, 22, 23, 24, 25, 26, 27] (by decide +kernel) (by decide +kernel)) (goodIn_sub (fun _ h => List.mem_cons_of_mem _ (List.mem_append_right _ h)) (by decide +kernel))
set_option maxRecDepth 20000 in
theorem gL_countryAt_X0_countryAt : GoodIn wsL_countryAt (wsV RL 21 RX0 yX0_countryAt wsX0_countryAt) := goodIn_app (goodIn_of _ (by decide +kernel)) ggL_countryAt_X0_countryAt
theorem dL_countryAt_0 : decode cL_countryAt 0 = .ok (.aload_n 3, 1) := by decide +kernel
theorem dL_countryAt_1 : decode cL_countryAt 1 = .ok (.iconst 0, 1) := by decide +kernel
theorem dL_countryAt_2 : decode cL_countryAt 2 = .ok (.aload_n 0, 1) := by decide +kernel
theorem dL_countryAt_3 : decode cL_countryAt 3 = .ok (.iload_n 1, 1) := by decide +kernel
theorem dL_countryAt_4 : decode cL_countryAt 4 = .ok (.iload_n 2, 1) := by decide +kernel
theorem dL_countryAt_5 : decode cL_countryAt 5 = .ok (.invokevirtual 21, 3) := by decide +kernel
theorem dL_countryAt_8 : decode cL_countryAt 8 = .ok (.i2l, 1) := by decide +kernel
theorem dL_countryAt_9 : decode cL_countryAt 9 = .ok (.lastore, 1) := by decide +kernel
theorem dL_countryAt_10 : decode cL_countryAt 10 = .ok (.goto 7, 3) := by decide +kernel
theorem dL_countryAt_13 : decode cL_countryAt 13 = .ok (.astore 4, 2) := by decide +kernel
theorem dL_countryAt_15 : decode cL_countryAt 15 = .ok (.iconst 1, 1) := by decide +kernel
theorem dL_countryAt_16 : decode cL_countryAt 16 = .ok (.ireturn, 1) := by decide +kernel
theorem dL_countryAt_17 : decode cL_countryAt 17 = .ok (.iconst 0, 1) := by decide +kernel
theorem dL_countryAt_18 : decode cL_countryAt 18 = .ok (.ireturn, 1) := by decide +kernel
set_option maxRecDepth 20000 in
theorem ggL_area_X0_area : GoodIn wsL_area wsX0_area := goodIn_ca (goodIn_r _ [6, 7, 8, 9, 5, 10, 11, 12, 13, 14, 15, 16, 17, 18, 19, 20, 21, 22, 23, 24, 25, 26, 27] (by decide +kernel) (by decide +kernel)) (goodIn_sub (fun _ h => List.mem_cons_of_mem _ (List.mem_append_right _ h)) (by decide +kernel))
set_option maxRecDepth 20000 in
theorem gL_area_X0_area : GoodIn wsL_area (wsV RL 25 RX0 yX0_area wsX0_area) := goodIn_app (goodIn_of _ (by decide +kernel)) ggL_area_X0_area
theorem dL_area_0 : decode cL_area 0 = .ok (.aload_n 2, 1) := by decide +kernel
theorem dL_area_1 : decode cL_area 1 = .ok (.iconst 0, 1) := by decide +kernel
theorem dL_area_2 : decode cL_area 2 = .ok (.aload_n 0, 1) := by decide +kernel
theorem dL_area_3 : decode cL_area 3 = .ok (.iload_n 1, 1) := by decide +kernel
theorem dL_area_4 : decode cL_area 4 = .ok (.invokevirtual 25, 3) := by decide +kernel
theorem dL_area_7 : decode cL_area 7 = .ok (.i2l, 1) := by decide +kernel
theorem dL_area_8 : decode cL_area 8 = .ok (.lastore, 1) := by decide +kernel
theorem dL_area_9 : decode cL_area 9 = .ok (.goto 6, 3) := by decide +kernel
theorem dL_area_12 : decode cL_area 12 = .ok (.astore_n 3, 1) := by decide +kernel
theorem dL_area_13 : decode cL_area 13 = .ok (.iconst 1, 1) := by decide +kernel
theorem dL_area_14 : decode cL_area 14 = .ok (.ireturn, 1) := by decide +kernel
theorem dL_area_15 : decode cL_area 15 = .ok (.iconst 0, 1) := by decide +kernel
theorem dL_area_16 : decode cL_area 16 = .ok (.ireturn, 1) := by decide +kernel
set_option maxRecDepth 20000 in
theorem ggL_pieces_X0_pieces : GoodIn wsL_pieces wsX0_pieces := goodIn_ca (goodIn_r _ [6, 7, 8, 9, 5, 10, 11, 12, 13, 14, 15, 16, 17, 18, 19, 20, 21, 22, 23, 24, 25, 26, 27, 28, 29, 30, 31, 32, 33, 34, 35, 36, 37, 38, 39, 40, 41, 42, 43, 44, 45, 46, 47, 48] (by decide +kernel) (by decide +kernel)) (goodIn_sub (fun _ h => List.mem_cons_of_mem _ (List.mem_append_right _ h)) (by decide +kernel))
set_option maxRecDepth 20000 in
theorem gL_pieces_X0_pieces : GoodIn wsL_pieces (wsV RL 29 RX0 yX0_pieces wsX0_pieces) := goodIn_app (goodIn_of _ (by decide +kernel)) ggL_pieces_X0_pieces
theorem dL_pieces_0 : decode cL_pieces 0 = .ok (.aload_n 2, 1) := by decide +kernel
theorem dL_pieces_1 : decode cL_pieces 1 = .ok (.iconst 0, 1) := by decide +kernel
theorem dL_pieces_2 : decode cL_pieces 2 = .ok (.aload_n 0, 1) := by decide +kernel
theorem dL_pieces_3 : decode cL_pieces 3 = .ok (.iload_n 1, 1) := by decide +kernel
theorem dL_pieces_4 : decode cL_pieces 4 = .ok (.invokevirtual 29, 3) := by decide +kernel
theorem dL_pieces_7 : decode cL_pieces 7 = .ok (.i2l, 1) := by decide +kernel
theorem dL_pieces_8 : decode cL_pieces 8 = .ok (.lastore, 1) := by decide +kernel
theorem dL_pieces_9 : decode cL_pieces 9 = .ok (.goto 6, 3) := by decide +kernel
theorem dL_pieces_12 : decode cL_pieces 12 = .ok (.astore_n 3, 1) := by decide +kernel
theorem dL_pieces_13 : decode cL_pieces 13 = .ok (.iconst 1, 1) := by decide +kernel
theorem dL_pieces_14 : decode cL_pieces 14 = .ok (.ireturn, 1) := by decide +kernel
theorem dL_pieces_15 : decode cL_pieces 15 = .ok (.iconst 0, 1) := by decide +kernel
theorem dL_pieces_16 : decode cL_pieces 16 = .ok (.ireturn, 1) := by decide +kernel
set_option maxRecDepth 20000 in
theorem ggL_largestPiece_X0_largestPiece : GoodIn wsL_largestPiece wsX0_largestPiece := goodIn_ca (goodIn_r _ [6, 7, 8, 9, 10, 11, 12, 13, 14, 5, 15, 16, 17, 18, 19, 20, 21, 22, 23, 24, 25, 26, 27, 28, 29, 30, 31, 32, 33, 34, 35, 36, 37, 38, 39, 40, 41, 42, 43, 44, 45, 46, 47, 48, 49, 50, 51, 52, 53, 54, 55, 56] (by decide +kernel) (by decide +kernel)) (goodIn_sub (fun _ h => List.mem_cons_of_mem _ (List.mem_append_right _ h)) (by decide +kernel))
set_option maxRecDepth 20000 in
theorem gL_largestPiece_X0_largestPiece : GoodIn wsL_largestPiece (wsV RL 32 RX0 yX0_largestPiece wsX0_largestPiece) := goodIn_app (goodIn_of _ (by decide +kernel)) ggL_largestPiece_X0_largestPiece
theorem dL_largestPiece_0 : decode cL_largestPiece 0 = .ok (.aload_n 2, 1) := by decide +kernel
theorem dL_largestPiece_1 : decode cL_largestPiece 1 = .ok (.iconst 0, 1) := by decide +kernel
theorem dL_largestPiece_2 : decode cL_largestPiece 2 = .ok (.aload_n 0, 1) := by decide +kernel
theorem dL_largestPiece_3 : decode cL_largestPiece 3 = .ok (.iload_n 1, 1) := by decide +kernel
theorem dL_largestPiece_4 : decode cL_largestPiece 4 = .ok (.invokevirtual 32, 3) := by decide +kernel
theorem dL_largestPiece_7 : decode cL_largestPiece 7 = .ok (.i2l, 1) := by decide +kernel
theorem dL_largestPiece_8 : decode cL_largestPiece 8 = .ok (.lastore, 1) := by decide +kernel
theorem dL_largestPiece_9 : decode cL_largestPiece 9 = .ok (.goto 6, 3) := by decide +kernel
theorem dL_largestPiece_12 : decode cL_largestPiece 12 = .ok (.astore_n 3, 1) := by decide +kernel
theorem dL_largestPiece_13 : decode cL_largestPiece 13 = .ok (.iconst 1, 1) := by decide +kernel
theorem dL_largestPiece_14 : decode cL_largestPiece 14 = .ok (.ireturn, 1) := by decide +kernel
theorem dL_largestPiece_15 : decode cL_largestPiece 15 = .ok (.iconst 0, 1) := by decide +kernel
theorem dL_largestPiece_16 : decode cL_largestPiece 16 = .ok (.ireturn, 1) := by decide +kernel
set_option maxRecDepth 20000 in
theorem ggL_neighbours_X0_neighbours : GoodIn wsL_neighbours wsX0_neighbours := goodIn_ca (goodIn_r _ [6, 7, 8, 9, 5, 10, 11, 12, 13, 14, 15, 16, 17, 18, 19, 20, 21, 22, 23, 24, 25, 26, 27] (by decide +kernel) (by decide +kernel)) (goodIn_sub (fun _ h => List.mem_cons_of_mem _ (List.mem_append_right _ h)) (by decide +kernel))
set_option maxRecDepth 20000 in
theorem gL_neighbours_X0_neighbours : GoodIn wsL_neighbours (wsV RL 35 RX0 yX0_neighbours wsX0_neighbours) := goodIn_app (goodIn_of _ (by decide +kernel)) ggL_neighbours_X0_neighbours
theorem dL_neighbours_0 : decode cL_neighbours 0 = .ok (.aload_n 2, 1) := by decide +kernel
theorem dL_neighbours_1 : decode cL_neighbours 1 = .ok (.iconst 0, 1) := by decide +kernel
theorem dL_neighbours_2 : decode cL_neighbours 2 = .ok (.aload_n 0, 1) := by decide +kernel
theorem dL_neighbours_3 : decode cL_neighbours 3 = .ok (.iload_n 1, 1) := by decide +kernel
theorem dL_neighbours_4 : decode cL_neighbours 4 = .ok (.invokevirtual 35, 3) := by decide +kernel
theorem dL_neighbours_7 : decode cL_neighbours 7 = .ok (.i2l, 1) := by decide +kernel
theorem dL_neighbours_8 : decode cL_neighbours 8 = .ok (.lastore, 1) := by decide +kernel
theorem dL_neighbours_9 : decode cL_neighbours 9 = .ok (.goto 6, 3) := by decide +kernel
theorem dL_neighbours_12 : decode cL_neighbours 12 = .ok (.astore_n 3, 1) := by decide +kernel
theorem dL_neighbours_13 : decode cL_neighbours 13 = .ok (.iconst 1, 1) := by decide +kernel
theorem dL_neighbours_14 : decode cL_neighbours 14 = .ok (.ireturn, 1) := by decide +kernel
theorem dL_neighbours_15 : decode cL_neighbours 15 = .ok (.iconst 0, 1) := by decide +kernel
theorem dL_neighbours_16 : decode cL_neighbours 16 = .ok (.ireturn, 1) := by decide +kernel
set_option maxRecDepth 20000 in
theorem ggL_border_X0_border : GoodIn wsL_border wsX0_border := goodIn_ca (goodIn_r _ [6, 7, 8, 9, 5, 10, 11, 12, 13, 14, 15, 16, 17, 18, 19, 20, 21, 22, 23, 24, 25, 26, 27, 28, 29, 30, 31, 32, 33, 34, 35, 36, 37, 38, 39, 40, 41, 42] (by decide +kernel) (by decide +kernel)) (goodIn_sub (fun _ h => List.mem_cons_of_mem _ (List.mem_append_right _ h)) (by decide +kernel))
set_option maxRecDepth 20000 in
theorem gL_border_X0_border : GoodIn wsL_border (wsV RL 38 RX0 yX0_border wsX0_border) := goodIn_app (goodIn_of _ (by decide +kernel)) ggL_border_X0_border
theorem dL_border_0 : decode cL_border 0 = .ok (.aload_n 3, 1) := by decide +kernel
theorem dL_border_1 : decode cL_border 1 = .ok (.iconst 0, 1) := by decide +kernel
theorem dL_border_2 : decode cL_border 2 = .ok (.aload_n 0, 1) := by decide +kernel
theorem dL_border_3 : decode cL_border 3 = .ok (.iload_n 1, 1) := by decide +kernel
theorem dL_border_4 : decode cL_border 4 = .ok (.iload_n 2, 1) := by decide +kernel
theorem dL_border_5 : decode cL_border 5 = .ok (.invokevirtual 38, 3) := by decide +kernel
theorem dL_border_8 : decode cL_border 8 = .ok (.i2l, 1) := by decide +kernel
theorem dL_border_9 : decode cL_border 9 = .ok (.lastore, 1) := by decide +kernel
theorem dL_border_10 : decode cL_border 10 = .ok (.goto 7, 3) := by decide +kernel
theorem dL_border_13 : decode cL_border 13 = .ok (.astore 4, 2) := by decide +kernel
theorem dL_border_15 : decode cL_border 15 = .ok (.iconst 1, 1) := by decide +kernel
theorem dL_border_16 : decode cL_border 16 = .ok (.ireturn, 1) := by decide +kernel
theorem dL_border_17 : decode cL_border 17 = .ok (.iconst 0, 1) := by decide +kernel
theorem dL_border_18 : decode cL_border 18 = .ok (.ireturn, 1) := by decide +kernel
set_option maxRecDepth 20000 in
theorem ggL_enclosed_X0_enclosed : GoodIn wsL_enclosed wsX0_enclosed := goodIn_ca (goodIn_r _ [6, 7, 8, 9, 10, 11, 12, 5, 13, 14, 15, 16, 17, 18, 19, 20, 21, 22, 23, 24, 25, 26, 27, 28, 29, 30, 31, 32, 33, 34, 35, 36, 37, 38, 39, 40, 41, 42, 43, 44, 45, 46, 47, 48, 49, 50] (by decide +kernel) (by decide +kernel)) (goodIn_sub (fun _ h => List.mem_cons_of_mem _ (List.mem_append_right _ h)) (by decide +kernel))
set_option maxRecDepth 20000 in
theorem gL_enclosed_X0_enclosed : GoodIn wsL_enclosed (wsV RL 41 RX0 yX0_enclosed wsX0_enclosed) := goodIn_app (goodIn_of _ (by decide +kernel)) ggL_enclosed_X0_enclosed
theorem dL_enclosed_0 : decode cL_enclosed 0 = .ok (.aload_n 2, 1) := by decide +kernel
theorem dL_enclosed_1 : decode cL_enclosed 1 = .ok (.iconst 0, 1) := by decide +kernel
theorem dL_enclosed_2 : decode cL_enclosed 2 = .ok (.aload_n 0, 1) := by decide +kernel
theorem dL_enclosed_3 : decode cL_enclosed 3 = .ok (.iload_n 1, 1) := by decide +kernel
theorem dL_enclosed_4 : decode cL_enclosed 4 = .ok (.invokevirtual 41, 3) := by decide +kernel
theorem dL_enclosed_7 : decode cL_enclosed 7 = .ok (.i2l, 1) := by decide +kernel
theorem dL_enclosed_8 : decode cL_enclosed 8 = .ok (.lastore, 1) := by decide +kernel
theorem dL_enclosed_9 : decode cL_enclosed 9 = .ok (.goto 6, 3) := by decide +kernel
theorem dL_enclosed_12 : decode cL_enclosed 12 = .ok (.astore_n 3, 1) := by decide +kernel
theorem dL_enclosed_13 : decode cL_enclosed 13 = .ok (.iconst 1, 1) := by decide +kernel
theorem dL_enclosed_14 : decode cL_enclosed 14 = .ok (.ireturn, 1) := by decide +kernel
theorem dL_enclosed_15 : decode cL_enclosed 15 = .ok (.iconst 0, 1) := by decide +kernel
theorem dL_enclosed_16 : decode cL_enclosed 16 = .ok (.ireturn, 1) := by decide +kernel
set_option maxRecDepth 20000 in
theorem ggL_tint_X0_tint : GoodIn wsL_tint wsX0_tint := goodIn_ca (goodIn_ca (goodIn_r _ [7, 8, 9, 10, 6, 11, 12, 13, 14, 15, 16, 17, 18, 19, 20, 21, 22, 23, 24, 25, 26] (by decide +kernel) (by decide +kernel)) (goodIn_sub (fun _ h => List.mem_cons_of_mem _ (List.mem_append_left _ (List.mem_append_right _ h))) (by decide +kernel))) (goodIn_sub (fun _ h => List.mem_cons_of_mem _ (List.mem_append_right _ h)) (by decide +kernel))
set_option maxRecDepth 20000 in
theorem gL_tint_X0_tint : GoodIn wsL_tint (wsV RL 44 RX0 yX0_tint wsX0_tint) := goodIn_app (goodIn_of _ (by decide +kernel)) ggL_tint_X0_tint
theorem dL_tint_0 : decode cL_tint 0 = .ok (.aload_n 3, 1) := by decide +kernel
theorem dL_tint_1 : decode cL_tint 1 = .ok (.iconst 0, 1) := by decide +kernel
end
section
/-! the layer xw: a machine state as pc, locals, stack, world; rows of the kit over it -/
abbrev xC : Type := (Program × Launch × Env × Room × State × MethodId × Array Value × List Frame × Method × Code) × (va_G × List vw_C × (Nat → Prop) × List (ClassId × FieldType) × Nat × (State → Prop))
def xw : xC → Nat → Nat → Nat → List (Nat × Value) → List Value → va_W → Prop
  | ((p, l, e, R, s, m, args, below, meth, c), (D, cl, A, _, nL, Q)), cells, slots, pc, lv, st, ws => ∀ (H : Heap) (locs : List Loc) (ls : Array Slot), va_P D cl ws H → va_D A ws → va_S A s.heap H locs → lv_has ls nL lv → W p l e R s m args below meth c H locs cells slots Q (F0 m pc ls st)
/-- what is known of the method that runs: its room, launch, tables of classes, code, words -/
def xk : xC → Launch → Room → va_G → List vw_C → List (ClassId × FieldType) → ByteArray → String → List Cond → Nat → Prop
  | ((p, l, _, R, s, m, args, _, meth, c), (D, cl, A, tys, nL, _)), l', R', D', cl', tys', cc, own, Ts, n => l = l' ∧ R = R' ∧ D = D' ∧ cl = cl' ∧ tys = tys' ∧ p.tables.exec = Jvm.exec ∧ c.code = cc ∧ c.maxLocals = nL ∧ nL = n ∧ s.vm.findClass own = some m.cls ∧ (∀ w ∈ Ts, w.before args s = true) ∧ va_K D cl tys s ∧ (∀ q, s.heap.size ≤ q → A q) ∧ meth.locks = false
/-- put a local in its place -/
def xins (i : Nat) (v : Value) : List (Nat × Value) → List (Nat × Value)
  | [] => [(i, v)]
  | q :: r => bif Nat.blt q.1 i then q :: xins i v r else (i, v) :: q :: r
theorem xins_mem {i : Nat} {v : Value} {q : Nat × Value} : ∀ {l : List (Nat × Value)}, q ∈ xins i v l → q ∈ (i, v) :: l
  | [], h => h
  | a :: r, h => by
    unfold xins at h
    cases hb : Nat.blt a.1 i with
    | true =>
      rw [hb] at h
      rcases List.mem_cons.mp h with h | h
      · exact List.mem_cons.mpr (Or.inr (List.mem_cons.mpr (Or.inl h)))
      · rcases List.mem_cons.mp (xins_mem h) with h | h
        · exact List.mem_cons.mpr (Or.inl h)
        · exact List.mem_cons.mpr (Or.inr (List.mem_cons.mpr (Or.inr h)))
    | false =>
      rw [hb] at h
      exact h
theorem xhas_mono {ls : Array Slot} {n : Nat} {l l' : List (Nat × Value)} (h : lv_has ls n l) (hm : ∀ q ∈ l', q ∈ l) : lv_has ls n l' := ⟨h.1, h.2.1, fun q hq => h.2.2 q (hm q hq)⟩
def xst1 (i : Nat) (v : Value) (lv : List (Nat × Value)) : List (Nat × Value) := xins i v (lv.filter (fun q => !(q.1 == i) && !(q.1 + 1 == i && q.2.category == 2)))
def xst2 (i : Nat) (v : Value) (lv : List (Nat × Value)) : List (Nat × Value) := xins i v (lv.filter (fun q => !(q.1 == i) && (!(q.1 == i + 1) && !(q.1 + 1 == i && q.2.category == 2))))
/-- places kept, by a list of marks -/
def xkeep : List Bool → List (Nat × Value) → List (Nat × Value)
  | true :: b, q :: r => q :: xkeep b r
  | false :: b, _ :: r => xkeep b r
  | _, _ => []
theorem xkeep_mem {q : Nat × Value} : ∀ {b : List Bool} {l : List (Nat × Value)}, q ∈ xkeep b l → q ∈ l
  | [], [], h => h
  | [], _ :: _, h => absurd h List.not_mem_nil
  | true :: _, [], h => h
  | false :: _, [], h => h
  | true :: b, a :: r, h => by
    rcases List.mem_cons.mp h with h | h
    · exact List.mem_cons.mpr (Or.inl h)
    · exact List.mem_cons.mpr (Or.inr (xkeep_mem h))
  | false :: b, a :: r, h => List.mem_cons.mpr (Or.inr (xkeep_mem (b := b) h))
theorem xfm {α β : Type} {f : α → Option β} : ∀ {is : List α} {w : List β}, is.map f = w.map some → is.filterMap f = w
  | [], [], _ => rfl
  | [], _ :: _, h => by simp at h
  | _ :: _, [], h => by simp at h
  | i :: is, b :: w, h => by
    simp only [List.map_cons, List.cons.injEq] at h
    rw [List.filterMap_cons, h.1, xfm h.2]
def xushr (x y : Int32) : Int32 := (x.toUInt32 >>> (y.toUInt32 &&& Int32.toUInt32 31)).toInt32
def xlshl (x : Int64) (y : Int32) : Int64 := x <<< (y.toInt64 &&& 63)
def xlshr (x : Int64) (y : Int32) : Int64 := x >>> (y.toInt64 &&& 63)
def xlushr (x : Int64) (y : Int32) : Int64 := (x.toUInt64 >>> (y.toInt64.toUInt64 &&& Int64.toUInt64 63)).toInt64
theorem xin_of {i : Int32} {n : Nat} (h : (!(decide (i < 0) || decide (n ≤ i.toNatClampNeg))) = true) : vp_in i n := by
  intro h2
  rcases h2 with h2 | h2 <;> simp [h2] at h
def xin (i : Int32) (n : Nat) : Bool := !(decide (i < 0) || decide (n ≤ i.toNatClampNeg))
theorem xin_nI {k n : Nat} (h : k < n) (hn : n < 2 ^ 31) : xin (nI k) n = true := by
  have h1 := vp_in_nI h hn
  unfold vp_in at h1
  simp only [not_or] at h1
  simp [xin, h1.1, Nat.not_le.mp h1.2]
/-- a join of ways: the rest, said once -/
def xj1 {α : Type} (rest : α → Prop) (tree : (α → Prop) → Prop) : Prop := tree rest
theorem xj1_o {α : Type} {rest : α → Prop} {tree : (α → Prop) → Prop} (h : xj1 rest tree) : ∃ J : α → Prop, (∀ a, J a → rest a) ∧ tree J := ⟨rest, fun _ h => h, h⟩
theorem xj1_i {α : Type} {rest : α → Prop} {tree : (α → Prop) → Prop} (a : α) (h : ∀ J : α → Prop, J a → tree J) (r : rest a) : xj1 rest tree := h rest r
def xj0 (rest : Prop) (tree : Prop → Prop) : Prop := tree rest
theorem xj0_o {rest : Prop} {tree : Prop → Prop} (h : xj0 rest tree) : ∃ J : Prop, (J → rest) ∧ tree J := ⟨rest, fun h => h, h⟩
theorem xj0_i {rest : Prop} {tree : Prop → Prop} (h : ∀ J : Prop, J → tree J) (r : rest) : xj0 rest tree := h rest r
def xj2 {α β : Type} (rest : α → β → Prop) (tree : (α → β → Prop) → Prop) : Prop := tree rest
theorem xj2_o {α β : Type} {rest : α → β → Prop} {tree : (α → β → Prop) → Prop} (h : xj2 rest tree) : ∃ J : α → β → Prop, (∀ a b, J a b → rest a b) ∧ tree J := ⟨rest, fun _ _ h => h, h⟩
theorem xj2_i {α β : Type} {rest : α → β → Prop} {tree : (α → β → Prop) → Prop} (a : α) (b : β) (h : ∀ J : α → β → Prop, J a b → tree J) (r : rest a b) : xj2 rest tree := h rest r
def xj3 {α β γ : Type} (rest : α → β → γ → Prop) (tree : (α → β → γ → Prop) → Prop) : Prop := tree rest
theorem xj3_o {α β γ : Type} {rest : α → β → γ → Prop} {tree : (α → β → γ → Prop) → Prop} (h : xj3 rest tree) : ∃ J : α → β → γ → Prop, (∀ a b c, J a b c → rest a b c) ∧ tree J := ⟨rest, fun _ _ _ h => h, h⟩
theorem xj3_i {α β γ : Type} {rest : α → β → γ → Prop} {tree : (α → β → γ → Prop) → Prop} (a : α) (b : β) (c : γ) (h : ∀ J : α → β → γ → Prop, J a b c → tree J) (r : rest a b c) : xj3 rest tree := h rest r
def xj4 {α β γ δ : Type} (rest : α → β → γ → δ → Prop) (tree : (α → β → γ → δ → Prop) → Prop) : Prop := tree rest
theorem xj4_o {α β γ δ : Type} {rest : α → β → γ → δ → Prop} {tree : (α → β → γ → δ → Prop) → Prop} (h : xj4 rest tree) : ∃ J : α → β → γ → δ → Prop, (∀ a b c d, J a b c d → rest a b c d) ∧ tree J := ⟨rest, fun _ _ _ _ h => h, h⟩
theorem xj4_i {α β γ δ : Type} {rest : α → β → γ → δ → Prop} {tree : (α → β → γ → δ → Prop) → Prop} (a : α) (b : β) (c : γ) (d : δ) (h : ∀ J : α → β → γ → δ → Prop, J a b c d → tree J) (r : rest a b c d) : xj4 rest tree := h rest r
/-- a value is named -/
def xl {α : Type} (e : α) (f : α → Prop) : Prop := f e
theorem xl_o {α : Type} {e : α} {f : α → Prop} (h : xl e f) : ∃ y, y = e ∧ f y := ⟨e, rfl, h⟩
section XR
variable {X : xC} {l0 : Launch} {R0 : Room} {D0 : va_G} {cl0 : List vw_C} {tys0 : List (ClassId × FieldType)} {cc : ByteArray} {own : String} {Ts : List Cond} {nL cells slots pc : Nat} {lv lv' : List (Nat × Value)} {st : List Value} {ws : va_W}
theorem x_keep (b : List Bool) (h : xkeep b lv = lv') (kk : xw X cells slots pc lv' st ws) : xw X cells slots pc lv st ws := by
  obtain ⟨⟨p, l, e, R, s, m, args, below, meth, c⟩, ⟨D, cl, A, tys, nX, Q⟩⟩ := X
  intro H locs ls hP hD hS hl
  subst h
  exact kk H locs ls hP hD hS (xhas_mono hl (fun q hq => xkeep_mem hq))
theorem x_widen {k n : Nat} (h1 : cells ≤ k) (h2 : slots ≤ n) (kk : xw X k n pc lv st ws) : xw X cells slots pc lv st ws := by
  obtain ⟨⟨p, l, e, R, s, m, args, below, meth, c⟩, ⟨D, cl, A, tys, nX, Q⟩⟩ := X
  intro H locs ls hP hD hS hl
  exact W.widen h1 h2 (kk H locs ls hP hD hS hl)
theorem x_topi {x y : Int32} (h : y = x) (kk : xw X cells slots pc lv (.int y :: st) ws) : xw X cells slots pc lv (.int x :: st) ws := h ▸ kk
theorem x_topl {x y : Int64} (h : y = x) (kk : xw X cells slots pc lv (.long y :: st) ws) : xw X cells slots pc lv (.long x :: st) ws := h ▸ kk
theorem x_wsub (is : List Nat) {ws' : va_W} (h : is.map (fun i => ws[i]?) = ws'.map some) (hn : va_nd is = true) (kk : xw X cells slots pc lv st ws') : xw X cells slots pc lv st ws := by
  obtain ⟨⟨p, l, e, R, s, m, args, below, meth, c⟩, ⟨D, cl, A, tys, nX, Q⟩⟩ := X
  intro H locs ls hP hD hS hl
  exact kk H locs ls (hP.sub is (xfm h)) (hD.sub is hn h) hS hl

theorem x_iload_n (K : xk X l0 R0 D0 cl0 tys0 cc own Ts nL) {k : Fin 4} {i : Nat} {x : Int32} (d : decode cc pc = .ok (.iload_n k, 1)) (j : Nat) (hi : (k : Nat) = i) (hj : lv[j]? = some (i, .int x)) (kk : xw X cells slots (pc + 1) lv (.int x :: st) ws) : xw X cells slots pc lv st ws := by
  obtain ⟨⟨p, l, e, R, s, m, args, below, meth, c⟩, ⟨D, cl, A, tys, nX, Q⟩⟩ := X
  obtain ⟨rfl, rfl, rfl, rfl, rfl, hx, hb, hml, rfl, hown, hts, hK, hA, hlk⟩ := K
  intro H locs ls hP hD hS hl
  exact lv_iload_n hx hb d hi (lv_at hl j hj) (kk H locs ls hP hD hS hl)
theorem x_iload (K : xk X l0 R0 D0 cl0 tys0 cc own Ts nL) {i : Nat} {x : Int32} (d : decode cc pc = .ok (.iload i, 2)) (j : Nat) (hj : lv[j]? = some (i, .int x)) (kk : xw X cells slots (pc + 2) lv (.int x :: st) ws) : xw X cells slots pc lv st ws := by
  obtain ⟨⟨p, l, e, R, s, m, args, below, meth, c⟩, ⟨D, cl, A, tys, nX, Q⟩⟩ := X
  obtain ⟨rfl, rfl, rfl, rfl, rfl, hx, hb, hml, rfl, hown, hts, hK, hA, hlk⟩ := K
  intro H locs ls hP hD hS hl
  exact lv_iload hx hb d (lv_at hl j hj) (kk H locs ls hP hD hS hl)
theorem x_lload_n (K : xk X l0 R0 D0 cl0 tys0 cc own Ts nL) {k : Fin 4} {i : Nat} {x : Int64} (d : decode cc pc = .ok (.lload_n k, 1)) (j : Nat) (hi : (k : Nat) = i) (hj : lv[j]? = some (i, .long x)) (kk : xw X cells slots (pc + 1) lv (.long x :: st) ws) : xw X cells slots pc lv st ws := by
  obtain ⟨⟨p, l, e, R, s, m, args, below, meth, c⟩, ⟨D, cl, A, tys, nX, Q⟩⟩ := X
  obtain ⟨rfl, rfl, rfl, rfl, rfl, hx, hb, hml, rfl, hown, hts, hK, hA, hlk⟩ := K
  intro H locs ls hP hD hS hl
  exact lv_lload_n hx hb d hi (lv_at hl j hj) (kk H locs ls hP hD hS hl)
theorem x_lload (K : xk X l0 R0 D0 cl0 tys0 cc own Ts nL) {i : Nat} {x : Int64} (d : decode cc pc = .ok (.lload i, 2)) (j : Nat) (hj : lv[j]? = some (i, .long x)) (kk : xw X cells slots (pc + 2) lv (.long x :: st) ws) : xw X cells slots pc lv st ws := by
  obtain ⟨⟨p, l, e, R, s, m, args, below, meth, c⟩, ⟨D, cl, A, tys, nX, Q⟩⟩ := X
  obtain ⟨rfl, rfl, rfl, rfl, rfl, hx, hb, hml, rfl, hown, hts, hK, hA, hlk⟩ := K
  intro H locs ls hP hD hS hl
  exact lv_lload hx hb d (lv_at hl j hj) (kk H locs ls hP hD hS hl)
theorem x_aload_n (K : xk X l0 R0 D0 cl0 tys0 cc own Ts nL) {k : Fin 4} {i : Nat} {x : Nat} (d : decode cc pc = .ok (.aload_n k, 1)) (j : Nat) (hi : (k : Nat) = i) (hj : lv[j]? = some (i, .ref x)) (kk : xw X cells slots (pc + 1) lv (.ref x :: st) ws) : xw X cells slots pc lv st ws := by
  obtain ⟨⟨p, l, e, R, s, m, args, below, meth, c⟩, ⟨D, cl, A, tys, nX, Q⟩⟩ := X
  obtain ⟨rfl, rfl, rfl, rfl, rfl, hx, hb, hml, rfl, hown, hts, hK, hA, hlk⟩ := K
  intro H locs ls hP hD hS hl
  exact lv_aload_n hx hb d hi (lv_at hl j hj) (kk H locs ls hP hD hS hl)
theorem x_aload (K : xk X l0 R0 D0 cl0 tys0 cc own Ts nL) {i : Nat} {x : Nat} (d : decode cc pc = .ok (.aload i, 2)) (j : Nat) (hj : lv[j]? = some (i, .ref x)) (kk : xw X cells slots (pc + 2) lv (.ref x :: st) ws) : xw X cells slots pc lv st ws := by
  obtain ⟨⟨p, l, e, R, s, m, args, below, meth, c⟩, ⟨D, cl, A, tys, nX, Q⟩⟩ := X
  obtain ⟨rfl, rfl, rfl, rfl, rfl, hx, hb, hml, rfl, hown, hts, hK, hA, hlk⟩ := K
  intro H locs ls hP hD hS hl
  exact lv_aload hx hb d (lv_at hl j hj) (kk H locs ls hP hD hS hl)
theorem x_istore_n (K : xk X l0 R0 D0 cl0 tys0 cc own Ts nL) {k : Fin 4} {i : Nat} {x : Int32} (d : decode cc pc = .ok (.istore_n k, 1)) (hi : (k : Nat) = i) (hn : i < nL) (h : xst1 i (.int x) lv = lv') (kk : xw X cells slots (pc + 1) lv' (st) ws) : xw X cells slots pc lv (.int x :: st) ws := by
  obtain ⟨⟨p, l, e, R, s, m, args, below, meth, c⟩, ⟨D, cl, A, tys, nX, Q⟩⟩ := X
  obtain ⟨rfl, rfl, rfl, rfl, rfl, hx, hb, hml, rfl, hown, hts, hK, hA, hlk⟩ := K
  intro H locs ls hP hD hS hl
  exact lv_istore_n hx hb d hi hl hn rfl (fun ls hl => kk H locs ls hP hD hS (xhas_mono hl (fun q hq => by subst h; exact xins_mem hq)))
theorem x_istore (K : xk X l0 R0 D0 cl0 tys0 cc own Ts nL) {i : Nat} {x : Int32} (d : decode cc pc = .ok (.istore i, 2)) (hn : i < nL) (h : xst1 i (.int x) lv = lv') (kk : xw X cells slots (pc + 2) lv' (st) ws) : xw X cells slots pc lv (.int x :: st) ws := by
  obtain ⟨⟨p, l, e, R, s, m, args, below, meth, c⟩, ⟨D, cl, A, tys, nX, Q⟩⟩ := X
  obtain ⟨rfl, rfl, rfl, rfl, rfl, hx, hb, hml, rfl, hown, hts, hK, hA, hlk⟩ := K
  intro H locs ls hP hD hS hl
  exact lv_istore hx hb d hl hn rfl (fun ls hl => kk H locs ls hP hD hS (xhas_mono hl (fun q hq => by subst h; exact xins_mem hq)))
theorem x_lstore_n (K : xk X l0 R0 D0 cl0 tys0 cc own Ts nL) {k : Fin 4} {i : Nat} {x : Int64} (d : decode cc pc = .ok (.lstore_n k, 1)) (hi : (k : Nat) = i) (hn : i + 1 < nL) (h : xst2 i (.long x) lv = lv') (kk : xw X cells slots (pc + 1) lv' (st) ws) : xw X cells slots pc lv (.long x :: st) ws := by
  obtain ⟨⟨p, l, e, R, s, m, args, below, meth, c⟩, ⟨D, cl, A, tys, nX, Q⟩⟩ := X
  obtain ⟨rfl, rfl, rfl, rfl, rfl, hx, hb, hml, rfl, hown, hts, hK, hA, hlk⟩ := K
  intro H locs ls hP hD hS hl
  exact lv_lstore_n hx hb d hi hl hn rfl (fun ls hl => kk H locs ls hP hD hS (xhas_mono hl (fun q hq => by subst h; exact xins_mem hq)))
theorem x_lstore (K : xk X l0 R0 D0 cl0 tys0 cc own Ts nL) {i : Nat} {x : Int64} (d : decode cc pc = .ok (.lstore i, 2)) (hn : i + 1 < nL) (h : xst2 i (.long x) lv = lv') (kk : xw X cells slots (pc + 2) lv' (st) ws) : xw X cells slots pc lv (.long x :: st) ws := by
  obtain ⟨⟨p, l, e, R, s, m, args, below, meth, c⟩, ⟨D, cl, A, tys, nX, Q⟩⟩ := X
  obtain ⟨rfl, rfl, rfl, rfl, rfl, hx, hb, hml, rfl, hown, hts, hK, hA, hlk⟩ := K
  intro H locs ls hP hD hS hl
  exact lv_lstore hx hb d hl hn rfl (fun ls hl => kk H locs ls hP hD hS (xhas_mono hl (fun q hq => by subst h; exact xins_mem hq)))
theorem x_astore_n (K : xk X l0 R0 D0 cl0 tys0 cc own Ts nL) {k : Fin 4} {i : Nat} {x : Nat} (d : decode cc pc = .ok (.astore_n k, 1)) (hi : (k : Nat) = i) (hn : i < nL) (h : xst1 i (.ref x) lv = lv') (kk : xw X cells slots (pc + 1) lv' (st) ws) : xw X cells slots pc lv (.ref x :: st) ws := by
  obtain ⟨⟨p, l, e, R, s, m, args, below, meth, c⟩, ⟨D, cl, A, tys, nX, Q⟩⟩ := X
  obtain ⟨rfl, rfl, rfl, rfl, rfl, hx, hb, hml, rfl, hown, hts, hK, hA, hlk⟩ := K
  intro H locs ls hP hD hS hl
  exact lv_astore_n hx hb d hi hl hn rfl (fun ls hl => kk H locs ls hP hD hS (xhas_mono hl (fun q hq => by subst h; exact xins_mem hq)))
theorem x_astore (K : xk X l0 R0 D0 cl0 tys0 cc own Ts nL) {i : Nat} {x : Nat} (d : decode cc pc = .ok (.astore i, 2)) (hn : i < nL) (h : xst1 i (.ref x) lv = lv') (kk : xw X cells slots (pc + 2) lv' (st) ws) : xw X cells slots pc lv (.ref x :: st) ws := by
  obtain ⟨⟨p, l, e, R, s, m, args, below, meth, c⟩, ⟨D, cl, A, tys, nX, Q⟩⟩ := X
  obtain ⟨rfl, rfl, rfl, rfl, rfl, hx, hb, hml, rfl, hown, hts, hK, hA, hlk⟩ := K
  intro H locs ls hP hD hS hl
  exact lv_astore hx hb d hl hn rfl (fun ls hl => kk H locs ls hP hD hS (xhas_mono hl (fun q hq => by subst h; exact xins_mem hq)))
theorem x_iinc (K : xk X l0 R0 D0 cl0 tys0 cc own Ts nL) {i k : Nat} {n : Int} {x v : Int32} (d : decode cc pc = .ok (.iinc i n, 3)) (hk : lv[k]? = some (i, .int x)) (hv : x + Int32.ofInt n = v) (hn : i < nL) (h : xst1 i (.int v) lv = lv') (kk : xw X cells slots (pc + 3) lv' (st) ws) : xw X cells slots pc lv st ws := by
  obtain ⟨⟨p, l, e, R, s, m, args, below, meth, c⟩, ⟨D, cl, A, tys, nX, Q⟩⟩ := X
  obtain ⟨rfl, rfl, rfl, rfl, rfl, hx, hb, hml, rfl, hown, hts, hK, hA, hlk⟩ := K
  intro H locs ls hP hD hS hl
  exact lv_iinc hx hb d hl hk hv hn rfl (fun ls hl => kk H locs ls hP hD hS (xhas_mono hl (fun q hq => by subst h; exact xins_mem hq)))
theorem x_iconst (K : xk X l0 R0 D0 cl0 tys0 cc own Ts nL) {n : Int} {v : Int32} (d : decode cc pc = .ok (.iconst n, 1)) (hv : Int32.ofInt n = v) (kk : xw X cells slots (pc + 1) lv (.int v :: st) ws) : xw X cells slots pc lv st ws := by
  obtain ⟨⟨p, l, e, R, s, m, args, below, meth, c⟩, ⟨D, cl, A, tys, nX, Q⟩⟩ := X
  obtain ⟨rfl, rfl, rfl, rfl, rfl, hx, hb, hml, rfl, hown, hts, hK, hA, hlk⟩ := K
  intro H locs ls hP hD hS hl
  exact lv_iconst hx hb d hv (kk H locs ls hP hD hS hl)
theorem x_bipush (K : xk X l0 R0 D0 cl0 tys0 cc own Ts nL) {n : Int} {v : Int32} (d : decode cc pc = .ok (.bipush n, 2)) (hv : (Int8.ofInt n).toInt32 = v) (kk : xw X cells slots (pc + 2) lv (.int v :: st) ws) : xw X cells slots pc lv st ws := by
  obtain ⟨⟨p, l, e, R, s, m, args, below, meth, c⟩, ⟨D, cl, A, tys, nX, Q⟩⟩ := X
  obtain ⟨rfl, rfl, rfl, rfl, rfl, hx, hb, hml, rfl, hown, hts, hK, hA, hlk⟩ := K
  intro H locs ls hP hD hS hl
  exact lv_bipush hx hb d hv (kk H locs ls hP hD hS hl)
theorem x_sipush (K : xk X l0 R0 D0 cl0 tys0 cc own Ts nL) {n : Int} {v : Int32} (d : decode cc pc = .ok (.sipush n, 3)) (hv : (Int16.ofInt n).toInt32 = v) (kk : xw X cells slots (pc + 3) lv (.int v :: st) ws) : xw X cells slots pc lv st ws := by
  obtain ⟨⟨p, l, e, R, s, m, args, below, meth, c⟩, ⟨D, cl, A, tys, nX, Q⟩⟩ := X
  obtain ⟨rfl, rfl, rfl, rfl, rfl, hx, hb, hml, rfl, hown, hts, hK, hA, hlk⟩ := K
  intro H locs ls hP hD hS hl
  exact lv_sipush hx hb d hv (kk H locs ls hP hD hS hl)
theorem x_lconst (K : xk X l0 R0 D0 cl0 tys0 cc own Ts nL) {n : Fin 2} {v : Int64} (d : decode cc pc = .ok (.lconst n, 1)) (hv : Int64.ofNat (n : Nat) = v) (kk : xw X cells slots (pc + 1) lv (.long v :: st) ws) : xw X cells slots pc lv st ws := by
  obtain ⟨⟨p, l, e, R, s, m, args, below, meth, c⟩, ⟨D, cl, A, tys, nX, Q⟩⟩ := X
  obtain ⟨rfl, rfl, rfl, rfl, rfl, hx, hb, hml, rfl, hown, hts, hK, hA, hlk⟩ := K
  intro H locs ls hP hD hS hl
  exact lv_lconst hx hb d hv (kk H locs ls hP hD hS hl)
theorem x_ldc (K : xk X l0 R0 D0 cl0 tys0 cc own Ts nL) {index : Nat} {v : Int32} (hc : Cond.constant own index v ∈ Ts) (d : decode cc pc = .ok (.ldc index, 2)) (kk : xw X cells slots (pc + 2) lv (.int v :: st) ws) : xw X cells slots pc lv st ws := by
  obtain ⟨⟨p, l, e, R, s, m, args, below, meth, c⟩, ⟨D, cl, A, tys, nX, Q⟩⟩ := X
  obtain ⟨rfl, rfl, rfl, rfl, rfl, hx, hb, hml, rfl, hown, hts, hK, hA, hlk⟩ := K
  intro H locs ls hP hD hS hl
  exact lv_ldc hx hb hown (hts _ hc) d (kk H locs ls hP hD hS hl)
theorem x_ldcw (K : xk X l0 R0 D0 cl0 tys0 cc own Ts nL) {index : Nat} {v : Int32} (hc : Cond.constant own index v ∈ Ts) (d : decode cc pc = .ok (.ldc_w index, 3)) (kk : xw X cells slots (pc + 3) lv (.int v :: st) ws) : xw X cells slots pc lv st ws := by
  obtain ⟨⟨p, l, e, R, s, m, args, below, meth, c⟩, ⟨D, cl, A, tys, nX, Q⟩⟩ := X
  obtain ⟨rfl, rfl, rfl, rfl, rfl, hx, hb, hml, rfl, hown, hts, hK, hA, hlk⟩ := K
  intro H locs ls hP hD hS hl
  exact lv_ldcw hx hb hown (hts _ hc) d (kk H locs ls hP hD hS hl)
theorem x_ldc2 (K : xk X l0 R0 D0 cl0 tys0 cc own Ts nL) {index : Nat} {v : Int64} (hc : Cond.constantLong own index v ∈ Ts) (d : decode cc pc = .ok (.ldc2_w index, 3)) (kk : xw X cells slots (pc + 3) lv (.long v :: st) ws) : xw X cells slots pc lv st ws := by
  obtain ⟨⟨p, l, e, R, s, m, args, below, meth, c⟩, ⟨D, cl, A, tys, nX, Q⟩⟩ := X
  obtain ⟨rfl, rfl, rfl, rfl, rfl, hx, hb, hml, rfl, hown, hts, hK, hA, hlk⟩ := K
  intro H locs ls hP hD hS hl
  exact lv_ldc2 hx hb hown (hts _ hc) d (kk H locs ls hP hD hS hl)
theorem x_iadd (K : xk X l0 R0 D0 cl0 tys0 cc own Ts nL) {x y : Int32} (d : decode cc pc = .ok (.iadd, 1)) (kk : xw X cells slots (pc + 1) lv (.int (x + y) :: st) ws) : xw X cells slots pc lv (.int y :: .int x :: st) ws := by
  obtain ⟨⟨p, l, e, R, s, m, args, below, meth, c⟩, ⟨D, cl, A, tys, nX, Q⟩⟩ := X
  obtain ⟨rfl, rfl, rfl, rfl, rfl, hx, hb, hml, rfl, hown, hts, hK, hA, hlk⟩ := K
  intro H locs ls hP hD hS hl
  exact lv_iadd hx hb d (kk H locs ls hP hD hS hl)
theorem x_isub (K : xk X l0 R0 D0 cl0 tys0 cc own Ts nL) {x y : Int32} (d : decode cc pc = .ok (.isub, 1)) (kk : xw X cells slots (pc + 1) lv (.int (x - y) :: st) ws) : xw X cells slots pc lv (.int y :: .int x :: st) ws := by
  obtain ⟨⟨p, l, e, R, s, m, args, below, meth, c⟩, ⟨D, cl, A, tys, nX, Q⟩⟩ := X
  obtain ⟨rfl, rfl, rfl, rfl, rfl, hx, hb, hml, rfl, hown, hts, hK, hA, hlk⟩ := K
  intro H locs ls hP hD hS hl
  exact lv_isub hx hb d (kk H locs ls hP hD hS hl)
theorem x_imul (K : xk X l0 R0 D0 cl0 tys0 cc own Ts nL) {x y : Int32} (d : decode cc pc = .ok (.imul, 1)) (kk : xw X cells slots (pc + 1) lv (.int (x * y) :: st) ws) : xw X cells slots pc lv (.int y :: .int x :: st) ws := by
  obtain ⟨⟨p, l, e, R, s, m, args, below, meth, c⟩, ⟨D, cl, A, tys, nX, Q⟩⟩ := X
  obtain ⟨rfl, rfl, rfl, rfl, rfl, hx, hb, hml, rfl, hown, hts, hK, hA, hlk⟩ := K
  intro H locs ls hP hD hS hl
  exact lv_imul hx hb d (kk H locs ls hP hD hS hl)
theorem x_iand (K : xk X l0 R0 D0 cl0 tys0 cc own Ts nL) {x y : Int32} (d : decode cc pc = .ok (.iand, 1)) (kk : xw X cells slots (pc + 1) lv (.int (x &&& y) :: st) ws) : xw X cells slots pc lv (.int y :: .int x :: st) ws := by
  obtain ⟨⟨p, l, e, R, s, m, args, below, meth, c⟩, ⟨D, cl, A, tys, nX, Q⟩⟩ := X
  obtain ⟨rfl, rfl, rfl, rfl, rfl, hx, hb, hml, rfl, hown, hts, hK, hA, hlk⟩ := K
  intro H locs ls hP hD hS hl
  exact lv_iand hx hb d (kk H locs ls hP hD hS hl)
theorem x_ior (K : xk X l0 R0 D0 cl0 tys0 cc own Ts nL) {x y : Int32} (d : decode cc pc = .ok (.ior, 1)) (kk : xw X cells slots (pc + 1) lv (.int (x ||| y) :: st) ws) : xw X cells slots pc lv (.int y :: .int x :: st) ws := by
  obtain ⟨⟨p, l, e, R, s, m, args, below, meth, c⟩, ⟨D, cl, A, tys, nX, Q⟩⟩ := X
  obtain ⟨rfl, rfl, rfl, rfl, rfl, hx, hb, hml, rfl, hown, hts, hK, hA, hlk⟩ := K
  intro H locs ls hP hD hS hl
  exact lv_ior hx hb d (kk H locs ls hP hD hS hl)
theorem x_ixor (K : xk X l0 R0 D0 cl0 tys0 cc own Ts nL) {x y : Int32} (d : decode cc pc = .ok (.ixor, 1)) (kk : xw X cells slots (pc + 1) lv (.int (x ^^^ y) :: st) ws) : xw X cells slots pc lv (.int y :: .int x :: st) ws := by
  obtain ⟨⟨p, l, e, R, s, m, args, below, meth, c⟩, ⟨D, cl, A, tys, nX, Q⟩⟩ := X
  obtain ⟨rfl, rfl, rfl, rfl, rfl, hx, hb, hml, rfl, hown, hts, hK, hA, hlk⟩ := K
  intro H locs ls hP hD hS hl
  exact lv_ixor hx hb d (kk H locs ls hP hD hS hl)
theorem x_ishl (K : xk X l0 R0 D0 cl0 tys0 cc own Ts nL) {x y : Int32} (d : decode cc pc = .ok (.ishl, 1)) (kk : xw X cells slots (pc + 1) lv (.int (x <<< (y &&& 31)) :: st) ws) : xw X cells slots pc lv (.int y :: .int x :: st) ws := by
  obtain ⟨⟨p, l, e, R, s, m, args, below, meth, c⟩, ⟨D, cl, A, tys, nX, Q⟩⟩ := X
  obtain ⟨rfl, rfl, rfl, rfl, rfl, hx, hb, hml, rfl, hown, hts, hK, hA, hlk⟩ := K
  intro H locs ls hP hD hS hl
  exact lv_ishl hx hb d (kk H locs ls hP hD hS hl)
theorem x_ishr (K : xk X l0 R0 D0 cl0 tys0 cc own Ts nL) {x y : Int32} (d : decode cc pc = .ok (.ishr, 1)) (kk : xw X cells slots (pc + 1) lv (.int (x >>> (y &&& 31)) :: st) ws) : xw X cells slots pc lv (.int y :: .int x :: st) ws := by
  obtain ⟨⟨p, l, e, R, s, m, args, below, meth, c⟩, ⟨D, cl, A, tys, nX, Q⟩⟩ := X
  obtain ⟨rfl, rfl, rfl, rfl, rfl, hx, hb, hml, rfl, hown, hts, hK, hA, hlk⟩ := K
  intro H locs ls hP hD hS hl
  exact lv_ishr hx hb d (kk H locs ls hP hD hS hl)
theorem x_ladd (K : xk X l0 R0 D0 cl0 tys0 cc own Ts nL) {x y : Int64} (d : decode cc pc = .ok (.ladd, 1)) (kk : xw X cells slots (pc + 1) lv (.long (x + y) :: st) ws) : xw X cells slots pc lv (.long y :: .long x :: st) ws := by
  obtain ⟨⟨p, l, e, R, s, m, args, below, meth, c⟩, ⟨D, cl, A, tys, nX, Q⟩⟩ := X
  obtain ⟨rfl, rfl, rfl, rfl, rfl, hx, hb, hml, rfl, hown, hts, hK, hA, hlk⟩ := K
  intro H locs ls hP hD hS hl
  exact lv_ladd hx hb d (kk H locs ls hP hD hS hl)
theorem x_lsub (K : xk X l0 R0 D0 cl0 tys0 cc own Ts nL) {x y : Int64} (d : decode cc pc = .ok (.lsub, 1)) (kk : xw X cells slots (pc + 1) lv (.long (x - y) :: st) ws) : xw X cells slots pc lv (.long y :: .long x :: st) ws := by
  obtain ⟨⟨p, l, e, R, s, m, args, below, meth, c⟩, ⟨D, cl, A, tys, nX, Q⟩⟩ := X
  obtain ⟨rfl, rfl, rfl, rfl, rfl, hx, hb, hml, rfl, hown, hts, hK, hA, hlk⟩ := K
  intro H locs ls hP hD hS hl
  exact lv_lsub hx hb d (kk H locs ls hP hD hS hl)
theorem x_lmul (K : xk X l0 R0 D0 cl0 tys0 cc own Ts nL) {x y : Int64} (d : decode cc pc = .ok (.lmul, 1)) (kk : xw X cells slots (pc + 1) lv (.long (x * y) :: st) ws) : xw X cells slots pc lv (.long y :: .long x :: st) ws := by
  obtain ⟨⟨p, l, e, R, s, m, args, below, meth, c⟩, ⟨D, cl, A, tys, nX, Q⟩⟩ := X
  obtain ⟨rfl, rfl, rfl, rfl, rfl, hx, hb, hml, rfl, hown, hts, hK, hA, hlk⟩ := K
  intro H locs ls hP hD hS hl
  exact lv_lmul hx hb d (kk H locs ls hP hD hS hl)
theorem x_land (K : xk X l0 R0 D0 cl0 tys0 cc own Ts nL) {x y : Int64} (d : decode cc pc = .ok (.land, 1)) (kk : xw X cells slots (pc + 1) lv (.long (x &&& y) :: st) ws) : xw X cells slots pc lv (.long y :: .long x :: st) ws := by
  obtain ⟨⟨p, l, e, R, s, m, args, below, meth, c⟩, ⟨D, cl, A, tys, nX, Q⟩⟩ := X
  obtain ⟨rfl, rfl, rfl, rfl, rfl, hx, hb, hml, rfl, hown, hts, hK, hA, hlk⟩ := K
  intro H locs ls hP hD hS hl
  exact lv_land hx hb d (kk H locs ls hP hD hS hl)
theorem x_lor (K : xk X l0 R0 D0 cl0 tys0 cc own Ts nL) {x y : Int64} (d : decode cc pc = .ok (.lor, 1)) (kk : xw X cells slots (pc + 1) lv (.long (x ||| y) :: st) ws) : xw X cells slots pc lv (.long y :: .long x :: st) ws := by
  obtain ⟨⟨p, l, e, R, s, m, args, below, meth, c⟩, ⟨D, cl, A, tys, nX, Q⟩⟩ := X
  obtain ⟨rfl, rfl, rfl, rfl, rfl, hx, hb, hml, rfl, hown, hts, hK, hA, hlk⟩ := K
  intro H locs ls hP hD hS hl
  exact lv_lor hx hb d (kk H locs ls hP hD hS hl)
theorem x_lxor (K : xk X l0 R0 D0 cl0 tys0 cc own Ts nL) {x y : Int64} (d : decode cc pc = .ok (.lxor, 1)) (kk : xw X cells slots (pc + 1) lv (.long (x ^^^ y) :: st) ws) : xw X cells slots pc lv (.long y :: .long x :: st) ws := by
  obtain ⟨⟨p, l, e, R, s, m, args, below, meth, c⟩, ⟨D, cl, A, tys, nX, Q⟩⟩ := X
  obtain ⟨rfl, rfl, rfl, rfl, rfl, hx, hb, hml, rfl, hown, hts, hK, hA, hlk⟩ := K
  intro H locs ls hP hD hS hl
  exact lv_lxor hx hb d (kk H locs ls hP hD hS hl)
theorem x_iushr (K : xk X l0 R0 D0 cl0 tys0 cc own Ts nL) {x y : Int32} (d : decode cc pc = .ok (.iushr, 1)) (kk : xw X cells slots (pc + 1) lv (.int (xushr x y) :: st) ws) : xw X cells slots pc lv (.int y :: .int x :: st) ws := by
  obtain ⟨⟨p, l, e, R, s, m, args, below, meth, c⟩, ⟨D, cl, A, tys, nX, Q⟩⟩ := X
  obtain ⟨rfl, rfl, rfl, rfl, rfl, hx, hb, hml, rfl, hown, hts, hK, hA, hlk⟩ := K
  intro H locs ls hP hD hS hl
  exact lv_iushr hx hb d rfl (kk H locs ls hP hD hS hl)
theorem x_lshl (K : xk X l0 R0 D0 cl0 tys0 cc own Ts nL) {x : Int64} {y : Int32} (d : decode cc pc = .ok (.lshl, 1)) (kk : xw X cells slots (pc + 1) lv (.long (xlshl x y) :: st) ws) : xw X cells slots pc lv (.int y :: .long x :: st) ws := by
  obtain ⟨⟨p, l, e, R, s, m, args, below, meth, c⟩, ⟨D, cl, A, tys, nX, Q⟩⟩ := X
  obtain ⟨rfl, rfl, rfl, rfl, rfl, hx, hb, hml, rfl, hown, hts, hK, hA, hlk⟩ := K
  intro H locs ls hP hD hS hl
  exact lv_lshl hx hb d rfl (kk H locs ls hP hD hS hl)
theorem x_lshr (K : xk X l0 R0 D0 cl0 tys0 cc own Ts nL) {x : Int64} {y : Int32} (d : decode cc pc = .ok (.lshr, 1)) (kk : xw X cells slots (pc + 1) lv (.long (xlshr x y) :: st) ws) : xw X cells slots pc lv (.int y :: .long x :: st) ws := by
  obtain ⟨⟨p, l, e, R, s, m, args, below, meth, c⟩, ⟨D, cl, A, tys, nX, Q⟩⟩ := X
  obtain ⟨rfl, rfl, rfl, rfl, rfl, hx, hb, hml, rfl, hown, hts, hK, hA, hlk⟩ := K
  intro H locs ls hP hD hS hl
  exact lv_lshr hx hb d rfl (kk H locs ls hP hD hS hl)
theorem x_lushr (K : xk X l0 R0 D0 cl0 tys0 cc own Ts nL) {x : Int64} {y : Int32} (d : decode cc pc = .ok (.lushr, 1)) (kk : xw X cells slots (pc + 1) lv (.long (xlushr x y) :: st) ws) : xw X cells slots pc lv (.int y :: .long x :: st) ws := by
  obtain ⟨⟨p, l, e, R, s, m, args, below, meth, c⟩, ⟨D, cl, A, tys, nX, Q⟩⟩ := X
  obtain ⟨rfl, rfl, rfl, rfl, rfl, hx, hb, hml, rfl, hown, hts, hK, hA, hlk⟩ := K
  intro H locs ls hP hD hS hl
  exact lv_lushr hx hb d rfl (kk H locs ls hP hD hS hl)
theorem x_ineg (K : xk X l0 R0 D0 cl0 tys0 cc own Ts nL) {x : Int32} (d : decode cc pc = .ok (.ineg, 1)) (kk : xw X cells slots (pc + 1) lv (.int (-x) :: st) ws) : xw X cells slots pc lv (.int x :: st) ws := by
  obtain ⟨⟨p, l, e, R, s, m, args, below, meth, c⟩, ⟨D, cl, A, tys, nX, Q⟩⟩ := X
  obtain ⟨rfl, rfl, rfl, rfl, rfl, hx, hb, hml, rfl, hown, hts, hK, hA, hlk⟩ := K
  intro H locs ls hP hD hS hl
  exact lv_ineg hx hb d (kk H locs ls hP hD hS hl)
theorem x_lneg (K : xk X l0 R0 D0 cl0 tys0 cc own Ts nL) {x : Int64} (d : decode cc pc = .ok (.lneg, 1)) (kk : xw X cells slots (pc + 1) lv (.long (-x) :: st) ws) : xw X cells slots pc lv (.long x :: st) ws := by
  obtain ⟨⟨p, l, e, R, s, m, args, below, meth, c⟩, ⟨D, cl, A, tys, nX, Q⟩⟩ := X
  obtain ⟨rfl, rfl, rfl, rfl, rfl, hx, hb, hml, rfl, hown, hts, hK, hA, hlk⟩ := K
  intro H locs ls hP hD hS hl
  exact lv_lneg hx hb d (kk H locs ls hP hD hS hl)
theorem x_idiv (K : xk X l0 R0 D0 cl0 tys0 cc own Ts nL) {x y : Int32} (hne : ¬ y = 0) (d : decode cc pc = .ok (.idiv, 1)) (kk : xw X cells slots (pc + 1) lv (.int (x / y) :: st) ws) : xw X cells slots pc lv (.int y :: .int x :: st) ws := by
  obtain ⟨⟨p, l, e, R, s, m, args, below, meth, c⟩, ⟨D, cl, A, tys, nX, Q⟩⟩ := X
  obtain ⟨rfl, rfl, rfl, rfl, rfl, hx, hb, hml, rfl, hown, hts, hK, hA, hlk⟩ := K
  intro H locs ls hP hD hS hl
  exact lv_idiv hx hb d hne (kk H locs ls hP hD hS hl)
theorem x_irem (K : xk X l0 R0 D0 cl0 tys0 cc own Ts nL) {x y : Int32} (hne : ¬ y = 0) (d : decode cc pc = .ok (.irem, 1)) (kk : xw X cells slots (pc + 1) lv (.int (x - x / y * y) :: st) ws) : xw X cells slots pc lv (.int y :: .int x :: st) ws := by
  obtain ⟨⟨p, l, e, R, s, m, args, below, meth, c⟩, ⟨D, cl, A, tys, nX, Q⟩⟩ := X
  obtain ⟨rfl, rfl, rfl, rfl, rfl, hx, hb, hml, rfl, hown, hts, hK, hA, hlk⟩ := K
  intro H locs ls hP hD hS hl
  exact lv_irem hx hb d hne (kk H locs ls hP hD hS hl)
theorem x_i2l (K : xk X l0 R0 D0 cl0 tys0 cc own Ts nL) {x : Int32} (d : decode cc pc = .ok (.i2l, 1)) (kk : xw X cells slots (pc + 1) lv (.long (x.toInt64) :: st) ws) : xw X cells slots pc lv (.int x :: st) ws := by
  obtain ⟨⟨p, l, e, R, s, m, args, below, meth, c⟩, ⟨D, cl, A, tys, nX, Q⟩⟩ := X
  obtain ⟨rfl, rfl, rfl, rfl, rfl, hx, hb, hml, rfl, hown, hts, hK, hA, hlk⟩ := K
  intro H locs ls hP hD hS hl
  exact lv_i2l hx hb d rfl (kk H locs ls hP hD hS hl)
theorem x_l2i (K : xk X l0 R0 D0 cl0 tys0 cc own Ts nL) {x : Int64} (d : decode cc pc = .ok (.l2i, 1)) (kk : xw X cells slots (pc + 1) lv (.int (x.toInt32) :: st) ws) : xw X cells slots pc lv (.long x :: st) ws := by
  obtain ⟨⟨p, l, e, R, s, m, args, below, meth, c⟩, ⟨D, cl, A, tys, nX, Q⟩⟩ := X
  obtain ⟨rfl, rfl, rfl, rfl, rfl, hx, hb, hml, rfl, hown, hts, hK, hA, hlk⟩ := K
  intro H locs ls hP hD hS hl
  exact lv_l2i hx hb d rfl (kk H locs ls hP hD hS hl)
theorem x_lcmp (K : xk X l0 R0 D0 cl0 tys0 cc own Ts nL) {x y : Int64} (d : decode cc pc = .ok (.lcmp, 1)) (kk : xw X cells slots (pc + 1) lv (.int (lg_cmp x y) :: st) ws) : xw X cells slots pc lv (.long y :: .long x :: st) ws := by
  obtain ⟨⟨p, l, e, R, s, m, args, below, meth, c⟩, ⟨D, cl, A, tys, nX, Q⟩⟩ := X
  obtain ⟨rfl, rfl, rfl, rfl, rfl, hx, hb, hml, rfl, hown, hts, hK, hA, hlk⟩ := K
  intro H locs ls hP hD hS hl
  exact W.lcmp hx hb d (kk H locs ls hP hD hS hl)
theorem x_dup (K : xk X l0 R0 D0 cl0 tys0 cc own Ts nL) {va : Value} (d : decode cc pc = .ok (.dup, 1)) (hva : va.category = 1) (kk : xw X cells slots (pc + 1) lv (va :: va :: st) ws) : xw X cells slots pc lv (va :: st) ws := by
  obtain ⟨⟨p, l, e, R, s, m, args, below, meth, c⟩, ⟨D, cl, A, tys, nX, Q⟩⟩ := X
  obtain ⟨rfl, rfl, rfl, rfl, rfl, hx, hb, hml, rfl, hown, hts, hK, hA, hlk⟩ := K
  intro H locs ls hP hD hS hl
  exact lv_dup hx hb d hva (kk H locs ls hP hD hS hl)
theorem x_dup2 (K : xk X l0 R0 D0 cl0 tys0 cc own Ts nL) {va vb : Value} (d : decode cc pc = .ok (.dup2, 1)) (hva : va.category = 1) (hvb : vb.category = 1) (kk : xw X cells slots (pc + 1) lv (va :: vb :: va :: vb :: st) ws) : xw X cells slots pc lv (va :: vb :: st) ws := by
  obtain ⟨⟨p, l, e, R, s, m, args, below, meth, c⟩, ⟨D, cl, A, tys, nX, Q⟩⟩ := X
  obtain ⟨rfl, rfl, rfl, rfl, rfl, hx, hb, hml, rfl, hown, hts, hK, hA, hlk⟩ := K
  intro H locs ls hP hD hS hl
  exact lv_dup2_11 hx hb d hva hvb (kk H locs ls hP hD hS hl)
theorem x_pop (K : xk X l0 R0 D0 cl0 tys0 cc own Ts nL) {va : Value} (d : decode cc pc = .ok (.pop, 1)) (hva : va.category = 1) (kk : xw X cells slots (pc + 1) lv (st) ws) : xw X cells slots pc lv (va :: st) ws := by
  obtain ⟨⟨p, l, e, R, s, m, args, below, meth, c⟩, ⟨D, cl, A, tys, nX, Q⟩⟩ := X
  obtain ⟨rfl, rfl, rfl, rfl, rfl, hx, hb, hml, rfl, hown, hts, hK, hA, hlk⟩ := K
  intro H locs ls hP hD hS hl
  exact lv_pop hx hb d hva (kk H locs ls hP hD hS hl)
theorem x_goto (K : xk X l0 R0 D0 cl0 tys0 cc own Ts nL) {off : Int} {tgt : Nat} (d : decode cc pc = .ok (.goto off, 3)) (ht : (pc : Int) + off = (tgt : Int)) (kk : xw X cells slots tgt lv st ws) : xw X cells slots pc lv st ws := by
  obtain ⟨⟨p, l, e, R, s, m, args, below, meth, c⟩, ⟨D, cl, A, tys, nX, Q⟩⟩ := X
  obtain ⟨rfl, rfl, rfl, rfl, rfl, hx, hb, hml, rfl, hown, hts, hK, hA, hlk⟩ := K
  intro H locs ls hP hD hS hl
  exact lv_goto hx hb d ht (kk H locs ls hP hD hS hl)
theorem x_icmp_eq (K : xk X l0 R0 D0 cl0 tys0 cc own Ts nL) {x y : Int32} {off : Int} {tgt : Nat} (d : decode cc pc = .ok (.if_icmp .eq off, 3)) (ht : (pc : Int) + off = (tgt : Int)) (kt : x = y → xw X cells slots tgt lv st ws) (kf : ¬ x = y → xw X cells slots (pc + 3) lv st ws) : xw X cells slots pc lv (.int y :: .int x :: st) ws := by
  obtain ⟨⟨p, l, e, R, s, m, args, below, meth, c⟩, ⟨D, cl, A, tys, nX, Q⟩⟩ := X
  obtain ⟨rfl, rfl, rfl, rfl, rfl, hx, hb, hml, rfl, hown, hts, hK, hA, hlk⟩ := K
  intro H locs ls hP hD hS hl
  exact lv_icmp_eq hx hb d ht (fun h => kt h H locs ls hP hD hS hl) (fun h => kf h H locs ls hP hD hS hl)
theorem x_if_eq (K : xk X l0 R0 D0 cl0 tys0 cc own Ts nL) {x : Int32} {off : Int} {tgt : Nat} (d : decode cc pc = .ok (.ifCond .eq off, 3)) (ht : (pc : Int) + off = (tgt : Int)) (kt : x = 0 → xw X cells slots tgt lv st ws) (kf : ¬ x = 0 → xw X cells slots (pc + 3) lv st ws) : xw X cells slots pc lv (.int x :: st) ws := by
  obtain ⟨⟨p, l, e, R, s, m, args, below, meth, c⟩, ⟨D, cl, A, tys, nX, Q⟩⟩ := X
  obtain ⟨rfl, rfl, rfl, rfl, rfl, hx, hb, hml, rfl, hown, hts, hK, hA, hlk⟩ := K
  intro H locs ls hP hD hS hl
  exact lv_if_eq hx hb d ht (fun h => kt h H locs ls hP hD hS hl) (fun h => kf h H locs ls hP hD hS hl)
theorem x_icmp_ne (K : xk X l0 R0 D0 cl0 tys0 cc own Ts nL) {x y : Int32} {off : Int} {tgt : Nat} (d : decode cc pc = .ok (.if_icmp .ne off, 3)) (ht : (pc : Int) + off = (tgt : Int)) (kt : ¬ x = y → xw X cells slots tgt lv st ws) (kf : x = y → xw X cells slots (pc + 3) lv st ws) : xw X cells slots pc lv (.int y :: .int x :: st) ws := by
  obtain ⟨⟨p, l, e, R, s, m, args, below, meth, c⟩, ⟨D, cl, A, tys, nX, Q⟩⟩ := X
  obtain ⟨rfl, rfl, rfl, rfl, rfl, hx, hb, hml, rfl, hown, hts, hK, hA, hlk⟩ := K
  intro H locs ls hP hD hS hl
  exact lv_icmp_ne hx hb d ht (fun h => kt h H locs ls hP hD hS hl) (fun h => kf h H locs ls hP hD hS hl)
theorem x_if_ne (K : xk X l0 R0 D0 cl0 tys0 cc own Ts nL) {x : Int32} {off : Int} {tgt : Nat} (d : decode cc pc = .ok (.ifCond .ne off, 3)) (ht : (pc : Int) + off = (tgt : Int)) (kt : ¬ x = 0 → xw X cells slots tgt lv st ws) (kf : x = 0 → xw X cells slots (pc + 3) lv st ws) : xw X cells slots pc lv (.int x :: st) ws := by
  obtain ⟨⟨p, l, e, R, s, m, args, below, meth, c⟩, ⟨D, cl, A, tys, nX, Q⟩⟩ := X
  obtain ⟨rfl, rfl, rfl, rfl, rfl, hx, hb, hml, rfl, hown, hts, hK, hA, hlk⟩ := K
  intro H locs ls hP hD hS hl
  exact lv_if_ne hx hb d ht (fun h => kt h H locs ls hP hD hS hl) (fun h => kf h H locs ls hP hD hS hl)
theorem x_icmp_lt (K : xk X l0 R0 D0 cl0 tys0 cc own Ts nL) {x y : Int32} {off : Int} {tgt : Nat} (d : decode cc pc = .ok (.if_icmp .lt off, 3)) (ht : (pc : Int) + off = (tgt : Int)) (kt : x < y → xw X cells slots tgt lv st ws) (kf : ¬ x < y → xw X cells slots (pc + 3) lv st ws) : xw X cells slots pc lv (.int y :: .int x :: st) ws := by
  obtain ⟨⟨p, l, e, R, s, m, args, below, meth, c⟩, ⟨D, cl, A, tys, nX, Q⟩⟩ := X
  obtain ⟨rfl, rfl, rfl, rfl, rfl, hx, hb, hml, rfl, hown, hts, hK, hA, hlk⟩ := K
  intro H locs ls hP hD hS hl
  exact lv_icmp_lt hx hb d ht (fun h => kt h H locs ls hP hD hS hl) (fun h => kf h H locs ls hP hD hS hl)
theorem x_if_lt (K : xk X l0 R0 D0 cl0 tys0 cc own Ts nL) {x : Int32} {off : Int} {tgt : Nat} (d : decode cc pc = .ok (.ifCond .lt off, 3)) (ht : (pc : Int) + off = (tgt : Int)) (kt : x < 0 → xw X cells slots tgt lv st ws) (kf : ¬ x < 0 → xw X cells slots (pc + 3) lv st ws) : xw X cells slots pc lv (.int x :: st) ws := by
  obtain ⟨⟨p, l, e, R, s, m, args, below, meth, c⟩, ⟨D, cl, A, tys, nX, Q⟩⟩ := X
  obtain ⟨rfl, rfl, rfl, rfl, rfl, hx, hb, hml, rfl, hown, hts, hK, hA, hlk⟩ := K
  intro H locs ls hP hD hS hl
  exact lv_if_lt hx hb d ht (fun h => kt h H locs ls hP hD hS hl) (fun h => kf h H locs ls hP hD hS hl)
theorem x_icmp_ge (K : xk X l0 R0 D0 cl0 tys0 cc own Ts nL) {x y : Int32} {off : Int} {tgt : Nat} (d : decode cc pc = .ok (.if_icmp .ge off, 3)) (ht : (pc : Int) + off = (tgt : Int)) (kt : y ≤ x → xw X cells slots tgt lv st ws) (kf : ¬ y ≤ x → xw X cells slots (pc + 3) lv st ws) : xw X cells slots pc lv (.int y :: .int x :: st) ws := by
  obtain ⟨⟨p, l, e, R, s, m, args, below, meth, c⟩, ⟨D, cl, A, tys, nX, Q⟩⟩ := X
  obtain ⟨rfl, rfl, rfl, rfl, rfl, hx, hb, hml, rfl, hown, hts, hK, hA, hlk⟩ := K
  intro H locs ls hP hD hS hl
  exact lv_icmp_ge hx hb d ht (fun h => kt h H locs ls hP hD hS hl) (fun h => kf h H locs ls hP hD hS hl)
theorem x_if_ge (K : xk X l0 R0 D0 cl0 tys0 cc own Ts nL) {x : Int32} {off : Int} {tgt : Nat} (d : decode cc pc = .ok (.ifCond .ge off, 3)) (ht : (pc : Int) + off = (tgt : Int)) (kt : 0 ≤ x → xw X cells slots tgt lv st ws) (kf : ¬ 0 ≤ x → xw X cells slots (pc + 3) lv st ws) : xw X cells slots pc lv (.int x :: st) ws := by
  obtain ⟨⟨p, l, e, R, s, m, args, below, meth, c⟩, ⟨D, cl, A, tys, nX, Q⟩⟩ := X
  obtain ⟨rfl, rfl, rfl, rfl, rfl, hx, hb, hml, rfl, hown, hts, hK, hA, hlk⟩ := K
  intro H locs ls hP hD hS hl
  exact lv_if_ge hx hb d ht (fun h => kt h H locs ls hP hD hS hl) (fun h => kf h H locs ls hP hD hS hl)
theorem x_icmp_gt (K : xk X l0 R0 D0 cl0 tys0 cc own Ts nL) {x y : Int32} {off : Int} {tgt : Nat} (d : decode cc pc = .ok (.if_icmp .gt off, 3)) (ht : (pc : Int) + off = (tgt : Int)) (kt : y < x → xw X cells slots tgt lv st ws) (kf : ¬ y < x → xw X cells slots (pc + 3) lv st ws) : xw X cells slots pc lv (.int y :: .int x :: st) ws := by
  obtain ⟨⟨p, l, e, R, s, m, args, below, meth, c⟩, ⟨D, cl, A, tys, nX, Q⟩⟩ := X
  obtain ⟨rfl, rfl, rfl, rfl, rfl, hx, hb, hml, rfl, hown, hts, hK, hA, hlk⟩ := K
  intro H locs ls hP hD hS hl
  exact lv_icmp_gt hx hb d ht (fun h => kt h H locs ls hP hD hS hl) (fun h => kf h H locs ls hP hD hS hl)
theorem x_if_gt (K : xk X l0 R0 D0 cl0 tys0 cc own Ts nL) {x : Int32} {off : Int} {tgt : Nat} (d : decode cc pc = .ok (.ifCond .gt off, 3)) (ht : (pc : Int) + off = (tgt : Int)) (kt : 0 < x → xw X cells slots tgt lv st ws) (kf : ¬ 0 < x → xw X cells slots (pc + 3) lv st ws) : xw X cells slots pc lv (.int x :: st) ws := by
  obtain ⟨⟨p, l, e, R, s, m, args, below, meth, c⟩, ⟨D, cl, A, tys, nX, Q⟩⟩ := X
  obtain ⟨rfl, rfl, rfl, rfl, rfl, hx, hb, hml, rfl, hown, hts, hK, hA, hlk⟩ := K
  intro H locs ls hP hD hS hl
  exact lv_if_gt hx hb d ht (fun h => kt h H locs ls hP hD hS hl) (fun h => kf h H locs ls hP hD hS hl)
theorem x_icmp_le (K : xk X l0 R0 D0 cl0 tys0 cc own Ts nL) {x y : Int32} {off : Int} {tgt : Nat} (d : decode cc pc = .ok (.if_icmp .le off, 3)) (ht : (pc : Int) + off = (tgt : Int)) (kt : x ≤ y → xw X cells slots tgt lv st ws) (kf : ¬ x ≤ y → xw X cells slots (pc + 3) lv st ws) : xw X cells slots pc lv (.int y :: .int x :: st) ws := by
  obtain ⟨⟨p, l, e, R, s, m, args, below, meth, c⟩, ⟨D, cl, A, tys, nX, Q⟩⟩ := X
  obtain ⟨rfl, rfl, rfl, rfl, rfl, hx, hb, hml, rfl, hown, hts, hK, hA, hlk⟩ := K
  intro H locs ls hP hD hS hl
  exact lv_icmp_le hx hb d ht (fun h => kt h H locs ls hP hD hS hl) (fun h => kf h H locs ls hP hD hS hl)
theorem x_if_le (K : xk X l0 R0 D0 cl0 tys0 cc own Ts nL) {x : Int32} {off : Int} {tgt : Nat} (d : decode cc pc = .ok (.ifCond .le off, 3)) (ht : (pc : Int) + off = (tgt : Int)) (kt : x ≤ 0 → xw X cells slots tgt lv st ws) (kf : ¬ x ≤ 0 → xw X cells slots (pc + 3) lv st ws) : xw X cells slots pc lv (.int x :: st) ws := by
  obtain ⟨⟨p, l, e, R, s, m, args, below, meth, c⟩, ⟨D, cl, A, tys, nX, Q⟩⟩ := X
  obtain ⟨rfl, rfl, rfl, rfl, rfl, hx, hb, hml, rfl, hown, hts, hK, hA, hlk⟩ := K
  intro H locs ls hP hD hS hl
  exact lv_if_le hx hb d ht (fun h => kt h H locs ls hP hD hS hl) (fun h => kf h H locs ls hP hD hS hl)
theorem x_iald (K : xk X l0 R0 D0 cl0 tys0 cc own Ts nL) {a n : Nat} {cA : ClassId} {f : Nat → Int32} {i : Int32} (q0 t0 : Nat) (ht : tys0[t0]? = some (cA, .int)) (ha : ws[q0]? = some (a, .inl (cA, n, .inl f))) (hin : xin i n = true) (d : decode cc pc = .ok (.iaload, 1)) (kk : xw X cells slots (pc + 1) lv (.int (f i.toNatClampNeg) :: st) ws) : xw X cells slots pc lv (.int i :: .ref a :: st) ws := by
  obtain ⟨⟨p, l, e, R, s, m, args, below, meth, c⟩, ⟨D, cl, A, tys, nX, Q⟩⟩ := X
  obtain ⟨rfl, rfl, rfl, rfl, rfl, hx, hb, hml, rfl, hown, hts, hK, hA, hlk⟩ := K
  intro H locs ls hP hD hS hl
  exact va_iald hx hb hK hP q0 t0 ha ht (xin_of hin) d (kk H locs ls hP hD hS hl)
theorem x_lald (K : xk X l0 R0 D0 cl0 tys0 cc own Ts nL) {a n : Nat} {cA : ClassId} {f : Nat → Int64} {i : Int32} (q0 t0 : Nat) (ht : tys0[t0]? = some (cA, .long)) (ha : ws[q0]? = some (a, .inl (cA, n, .inr (.inl f)))) (hin : xin i n = true) (d : decode cc pc = .ok (.laload, 1)) (kk : xw X cells slots (pc + 1) lv (.long (f i.toNatClampNeg) :: st) ws) : xw X cells slots pc lv (.int i :: .ref a :: st) ws := by
  obtain ⟨⟨p, l, e, R, s, m, args, below, meth, c⟩, ⟨D, cl, A, tys, nX, Q⟩⟩ := X
  obtain ⟨rfl, rfl, rfl, rfl, rfl, hx, hb, hml, rfl, hown, hts, hK, hA, hlk⟩ := K
  intro H locs ls hP hD hS hl
  exact va_lald hx hb hK hP q0 t0 ha ht (xin_of hin) d (kk H locs ls hP hD hS hl)
theorem x_zald (K : xk X l0 R0 D0 cl0 tys0 cc own Ts nL) {a n : Nat} {cA : ClassId} {f : Nat → Int32} {i : Int32} (q0 t0 : Nat) (ht : tys0[t0]? = some (cA, .boolean)) (ha : ws[q0]? = some (a, .inl (cA, n, .inl f))) (hin : xin i n = true) (d : decode cc pc = .ok (.baload, 1)) (kk : xw X cells slots (pc + 1) lv (.int (f i.toNatClampNeg) :: st) ws) : xw X cells slots pc lv (.int i :: .ref a :: st) ws := by
  obtain ⟨⟨p, l, e, R, s, m, args, below, meth, c⟩, ⟨D, cl, A, tys, nX, Q⟩⟩ := X
  obtain ⟨rfl, rfl, rfl, rfl, rfl, hx, hb, hml, rfl, hown, hts, hK, hA, hlk⟩ := K
  intro H locs ls hP hD hS hl
  exact va_zald hx hb hK hP q0 t0 ha ht (xin_of hin) d (kk H locs ls hP hD hS hl)
theorem x_aald (K : xk X l0 R0 D0 cl0 tys0 cc own Ts nL) {a n : Nat} {cA : ClassId} {f : Nat → Option Nat} {i : Int32} {ty : FieldType} (q0 t0 : Nat) (ht : tys0[t0]? = some (cA, ty)) (hty : refKind ty = true) (ha : ws[q0]? = some (a, .inl (cA, n, .inr (.inr (.inr (.inr f)))))) (hin : xin i n = true) (d : decode cc pc = .ok (.aaload, 1)) (kk : xw X cells slots (pc + 1) lv (va_rf (f i.toNatClampNeg) :: st) ws) : xw X cells slots pc lv (.int i :: .ref a :: st) ws := by
  obtain ⟨⟨p, l, e, R, s, m, args, below, meth, c⟩, ⟨D, cl, A, tys, nX, Q⟩⟩ := X
  obtain ⟨rfl, rfl, rfl, rfl, rfl, hx, hb, hml, rfl, hown, hts, hK, hA, hlk⟩ := K
  intro H locs ls hP hD hS hl
  have hin2 := xin_of hin
  have hlt : i.toNatClampNeg < n := Nat.not_le.mp fun q => hin2 (Or.inr q)
  exact W.aald (v := va_rf (f i.toNatClampNeg)) (ty := ty) hx hb (hP q0 _ ha) ((hK.2 t0 _ ht).1 n (fun j => va_rf (f j))) hty (fun q => by cases q) (by show ¬ (i < 0 ∨ (arrV _ _ _).slots.size ≤ _); rw [arrV_size]; exact hin2) (by show (arrV _ _ _).slots[_]? = _; rw [arrV_read _ _ hlt]) rfl rfl d (kk H locs ls hP hD hS hl)
theorem x_iast (K : xk X l0 R0 D0 cl0 tys0 cc own Ts nL) {a n : Nat} {cA : ClassId} {f : Nat → Int32} {i : Int32} {x : Int32} {ws' : va_W} (q0 t0 : Nat) (ht : tys0[t0]? = some (cA, .int)) (ha : ws[q0]? = some (a, .inl (cA, n, .inl f))) (hw : ws.set q0 (a, .inl (cA, n, .inl (upd f i.toNatClampNeg x))) = ws') (hin : xin i n = true) (d : decode cc pc = .ok (.iastore, 1)) (kk : xw X cells slots (pc + 1) lv st ws') : xw X cells slots pc lv (.int x :: .int i :: .ref a :: st) ws := by
  obtain ⟨⟨p, l, e, R, s, m, args, below, meth, c⟩, ⟨D, cl, A, tys, nX, Q⟩⟩ := X
  obtain ⟨rfl, rfl, rfl, rfl, rfl, hx, hb, hml, rfl, hown, hts, hK, hA, hlk⟩ := K
  intro H locs ls hP hD hS hl
  subst hw
  exact va_iast hx hb hK hP hD hS q0 t0 ha ht (xin_of hin) d (fun H locs hP hD hS => kk H locs ls hP hD hS hl)
theorem x_last (K : xk X l0 R0 D0 cl0 tys0 cc own Ts nL) {a n : Nat} {cA : ClassId} {f : Nat → Int64} {i : Int32} {x : Int64} {ws' : va_W} (q0 t0 : Nat) (ht : tys0[t0]? = some (cA, .long)) (ha : ws[q0]? = some (a, .inl (cA, n, .inr (.inl f)))) (hw : ws.set q0 (a, .inl (cA, n, .inr (.inl (vp_updL f i.toNatClampNeg x)))) = ws') (hin : xin i n = true) (d : decode cc pc = .ok (.lastore, 1)) (kk : xw X cells slots (pc + 1) lv st ws') : xw X cells slots pc lv (.long x :: .int i :: .ref a :: st) ws := by
  obtain ⟨⟨p, l, e, R, s, m, args, below, meth, c⟩, ⟨D, cl, A, tys, nX, Q⟩⟩ := X
  obtain ⟨rfl, rfl, rfl, rfl, rfl, hx, hb, hml, rfl, hown, hts, hK, hA, hlk⟩ := K
  intro H locs ls hP hD hS hl
  subst hw
  exact va_last hx hb hK hP hD hS q0 t0 ha ht (xin_of hin) d (fun H locs hP hD hS => kk H locs ls hP hD hS hl)
theorem x_zast (K : xk X l0 R0 D0 cl0 tys0 cc own Ts nL) {a n : Nat} {cA : ClassId} {f : Nat → Int32} {i : Int32} {x : Int32} {ws' : va_W} (q0 t0 : Nat) (ht : tys0[t0]? = some (cA, .boolean)) (ha : ws[q0]? = some (a, .inl (cA, n, .inl f))) (hw : ws.set q0 (a, .inl (cA, n, .inl (upd f i.toNatClampNeg (vp_nar .boolean x)))) = ws') (hin : xin i n = true) (d : decode cc pc = .ok (.bastore, 1)) (kk : xw X cells slots (pc + 1) lv st ws') : xw X cells slots pc lv (.int x :: .int i :: .ref a :: st) ws := by
  obtain ⟨⟨p, l, e, R, s, m, args, below, meth, c⟩, ⟨D, cl, A, tys, nX, Q⟩⟩ := X
  obtain ⟨rfl, rfl, rfl, rfl, rfl, hx, hb, hml, rfl, hown, hts, hK, hA, hlk⟩ := K
  intro H locs ls hP hD hS hl
  subst hw
  exact va_zast hx hb hK hP hD hS q0 t0 ha ht (xin_of hin) d (fun H locs hP hD hS => kk H locs ls hP hD hS hl)
theorem x_alen (K : xk X l0 R0 D0 cl0 tys0 cc own Ts nL) {a n : Nat} {cA : ClassId} {z : ((Nat → Int32) ⊕ (Nat → Int64) ⊕ (Nat → UInt32) ⊕ (Nat → UInt64) ⊕ (Nat → Option Nat))} {ty : FieldType} (q0 t0 : Nat) (ht : tys0[t0]? = some (cA, ty)) (ha : ws[q0]? = some (a, .inl (cA, n, z))) (d : decode cc pc = .ok (.arraylength, 1)) (kk : xw X cells slots (pc + 1) lv (.int (nI n) :: st) ws) : xw X cells slots pc lv (.ref a :: st) ws := by
  obtain ⟨⟨p, l, e, R, s, m, args, below, meth, c⟩, ⟨D, cl, A, tys, nX, Q⟩⟩ := X
  obtain ⟨rfl, rfl, rfl, rfl, rfl, hx, hb, hml, rfl, hown, hts, hK, hA, hlk⟩ := K
  intro H locs ls hP hD hS hl
  exact va_alen hx hb hK hP q0 t0 ha ht rfl d (kk H locs ls hP hD hS hl)
theorem x_get (K : xk X l0 R0 D0 cl0 tys0 cc own Ts nL) {ref C : String} {T : u_T} {N ci index a : Nat} {fs : List Value} {v : Value} (hin : ∀ w ∈ u_ws C T N, w ∈ Ts) (q0 : Nat) (hc : cl0[ci]? = some (C, T, N)) (he : ws[q0]? = some (a, .inr (ci, fs))) (k : Nat) (hk : k < N) (hlink : Cond.fieldLink own index ref (T k).2.1 (T k).2.2.1 ∈ Ts) (hs : (T k).1 = ref) (hv : fs[k]? = some v) (d : decode cc pc = .ok (.getfield index, 3)) (kk : xw X cells slots (pc + 3) lv (v :: st) ws) : xw X cells slots pc lv (.ref a :: st) ws := by
  obtain ⟨⟨p, l, e, R, s, m, args, below, meth, c⟩, ⟨D, cl, A, tys, nX, Q⟩⟩ := X
  obtain ⟨rfl, rfl, rfl, rfl, rfl, hx, hb, hml, rfl, hown, hts, hK, hA, hlk⟩ := K
  intro H locs ls hP hD hS hl
  subst hs
  exact va_get hx hb hts hin hown hK hP q0 he hc k hk (hts _ hlink) (fun _ h => h) hv d (kk H locs ls hP hD hS hl)
theorem x_put (K : xk X l0 R0 D0 cl0 tys0 cc own Ts nL) {ref C : String} {T : u_T} {N ci index a : Nat} {fs : List Value} {v : Value} {ws' : va_W} (hin : ∀ w ∈ u_ws C T N, w ∈ Ts) (ty0 : Nat → FieldType) (hty : ∀ k, k < N → parseFieldDescriptor (T k).2.2.1 = some (ty0 k)) (hnm : ∀ a, a < N → ∀ b, b < N → a ≠ b → (T a).2.1 ≠ (T b).2.1) (q0 : Nat) (hc : cl0[ci]? = some (C, T, N)) (he : ws[q0]? = some (a, .inr (ci, fs))) (k : Nat) (hk : k < N) (hlink : Cond.fieldLink own index ref (T k).2.1 (T k).2.2.1 ∈ Ts) (hs : (T k).1 = ref) (hfin : (T k).2.2.2 = false) {ty : FieldType} (hd : parseFieldDescriptor (T k).2.2.1 = some ty) (hn : narrow ty v = v) (hfit : fits ty v = true) (hlen : k < fs.length) (hw : ws.set q0 (a, .inr (ci, fs.set k v)) = ws') (d : decode cc pc = .ok (.putfield index, 3)) (kk : xw X cells slots (pc + 3) lv st ws') : xw X cells slots pc lv (v :: .ref a :: st) ws := by
  obtain ⟨⟨p, l, e, R, s, m, args, below, meth, c⟩, ⟨D, cl, A, tys, nX, Q⟩⟩ := X
  obtain ⟨rfl, rfl, rfl, rfl, rfl, hx, hb, hml, rfl, hown, hts, hK, hA, hlk⟩ := K
  intro H locs ls hP hD hS hl
  subst hs
  subst hw
  exact va_put hx hb hts hin ty0 hty hnm hown hK hP hD hS q0 he hc k hk (hts _ hlink) (fun _ h => h) hfin hd hn hfit hlen d (fun H locs hP hD hS => kk H locs ls hP hD hS hl)
def xmax (x y : Int32) : Int32 := if x < y then y else x
theorem x_mmax (K : xk X l0 R0 D0 cl0 tys0 cc own Ts nL) {index : Nat} {x y : Int32} (hlink : Cond.methodLink own index Lib.Math.max.name ∈ Ts) (hstat : Cond.static Lib.Math.max.name ∈ Ts) (hini : Cond.initialized "java/lang/Math" ∈ Ts) (hcode : Cond.code Lib.Math.max.name Lib.Math.max.code 2 (some .int) ∈ Ts) (hR : 1 ≤ R0.frames ∧ (st.map fun v => v.category).sum + 13 ≤ R0.locals) (hf : cells ≤ R0.cells ∧ slots ≤ R0.slots) (d : decode cc pc = .ok (.invokestatic index, 3)) (kk : xw X cells slots (pc + 3) lv (.int (xmax x y) :: st) ws) : xw X cells slots pc lv (.int y :: .int x :: st) ws := by
  obtain ⟨⟨p, l, e, R, s, m, args, below, meth, c⟩, ⟨D, cl, A, tys, nX, Q⟩⟩ := X
  obtain ⟨rfl, rfl, rfl, rfl, rfl, hx, hb, hml, rfl, hown, hts, hK, hA, hlk⟩ := K
  intro H locs ls hP hD hS hl
  exact va_mmax hx hb (by rw [hml, hl.1]) hown (hts _ hlink) (hts _ hstat) (hts _ hini) (hts _ hcode) hR.1 hR.2 hf.1 hf.2 d (kk H locs ls hP hD hS hl)
theorem x_copyi (K : xk X l0 R0 D0 cl0 tys0 cc own Ts nL) {index : Nat} {a0 a n0 n1 : Nat} {c0 c1 : ClassId} {f g : Nat → Int32} {ws' : va_W} {sp dp n : Int32} (hlink : Cond.methodLink own index arraycopyName ∈ Ts) (hnat : Cond.native arraycopyName ∈ Ts) (hstat : Cond.static arraycopyName ∈ Ts) (hini : Cond.initialized "java/lang/System" ∈ Ts) (q0 q1 t0 : Nat) (ha0 : ws[q0]? = some (a0, .inl (c0, n0, .inl f))) (ha1 : ws[q1]? = some (a, .inl (c1, n1, .inl g))) (ht0 : tys0[t0]? = some (c0, .int)) (ht1 : tys0[t0]? = some (c1, .int)) (h1 : ¬ sp < 0) (h2 : ¬ dp < 0) (h3 : ¬ n < 0) (h4 : sp.toNatClampNeg + n.toNatClampNeg ≤ n0) (h5 : dp.toNatClampNeg + n.toNatClampNeg ≤ n1) (hR : 1 ≤ R0.frames ∧ (st.map fun v => v.category).sum + (nativeFrameWords "java/lang/System" "arraycopy" 5 + 11) ≤ R0.locals) (d : decode cc pc = .ok (.invokestatic index, 3)) (hw : ws.set q1 (a, .inl (c1, n1, .inl (va_cpy f g sp.toNatClampNeg dp.toNatClampNeg n.toNatClampNeg))) = ws') (kk : xw X cells slots (pc + 3) lv st ws') : xw X cells slots pc lv (.int n :: .int dp :: .ref a :: .int sp :: .ref a0 :: st) ws := by
  obtain ⟨⟨p, l, e, R, s, m, args, below, meth, c⟩, ⟨D, cl, A, tys, nX, Q⟩⟩ := X
  obtain ⟨rfl, rfl, rfl, rfl, rfl, hx, hb, hml, rfl, hown, hts, hK, hA, hlk⟩ := K
  intro H locs ls hP hD hS hl
  subst hw
  exact va_copyi hx hb (by rw [hml, hl.1]) hown (hts _ hlink) (hts _ hnat) (hts _ hstat) (hts _ hini) hK hP hD hS q0 q1 t0 t0 ha0 ha1 ht0 ht1 rfl h1 h2 h3 h4 h5 (fun i hi => rfl) hR.1 hR.2 d (fun H locs hP hD hS => kk H locs ls hP hD hS hl)
end XR
end
section
/-! contracts and calls over xw -/
def xPre (D : va_G) (cl : List vw_C) (tys : List (ClassId × FieldType)) (ws : va_W) (sz : Nat) (av : List Value) : Array Value → State → Prop := va_Pc av (fun U => U.heap.size = sz ∧ va_P D cl ws U.heap ∧ va_K D cl tys U ∧ va_D (fun _ => True) ws)
def xB (D : va_G) (cl : List vw_C) (tys : List (ClassId × FieldType)) (A : Nat → Prop) (ws : va_W) (t : State) : Prop := va_P D cl ws t.heap ∧ va_K D cl tys t ∧ va_D A ws
/-- statics of the JDK and texts that a throw needs -/
def xE (own : String) (L : List (Nat × String)) (A : Nat → Prop) (U : State) : Prop := vx_Zq Bundle.tN "UNASSIGNED_STACK" Bundle.steD A U U.heap ∧ vx_Zq Bundle.tN "SUPPRESSED_SENTINEL" Bundle.listD A U U.heap ∧ ∀ q ∈ L, ∃ sa, vk_R own q.1 q.2 sa U
def xPreT (D : va_G) (cl : List vw_C) (tys : List (ClassId × FieldType)) (ws : va_W) (sz : Nat) (av : List Value) (own : String) (L : List (Nat × String)) : Array Value → State → Prop := va_Pc av (fun U => U.heap.size = sz ∧ va_P D cl ws U.heap ∧ va_K D cl tys U ∧ va_D (fun _ => True) ws ∧ xE own L (va_A ws sz) U)
theorem xPre_blind {D : va_G} {cl : List vw_C} {tys : List (ClassId × FieldType)} {ws : va_W} {sz : Nat} {av : List Value} : FrameBlind (xPre D cl tys ws sz av) := fun a U g mk q => by
  obtain ⟨q0, q1, qP, qK, qD⟩ := q
  exact ⟨q0, q1, qP, va_K.moved (u := U) (U := U.calling g mk a) (Vm.Alike.refl U.vm) qK, qD⟩
theorem xPreT_blind {D : va_G} {cl : List vw_C} {tys : List (ClassId × FieldType)} {ws : va_W} {sz : Nat} {av : List Value} {own : String} {L : List (Nat × String)} : FrameBlind (xPreT D cl tys ws sz av own L) := fun a U g mk q => by
  obtain ⟨q0, q1, qP, qK, qD, e1, e2, e3⟩ := q
  refine ⟨q0, q1, qP, va_K.moved (u := U) (U := U.calling g mk a) (Vm.Alike.refl U.vm) qK, qD, vx_Zq.moved (u := U) (U := U.calling g mk a) (Vm.Alike.refl U.vm) e1, vx_Zq.moved (u := U) (U := U.calling g mk a) (Vm.Alike.refl U.vm) e2, fun z hz => ?_⟩
  obtain ⟨sa, h⟩ := e3 z hz
  exact ⟨sa, vk_R.same rfl h⟩

def xMi (l : Launch) (y : MethodName) (w : List Cond) (rm : Room) (D : va_G) (cl : List vw_C) (tys : List (ClassId × FieldType)) (ws : va_W) (av : List Value) {σ : Type} (wf : σ → va_W) (P : Int32 → σ → Prop) : Prop := ∀ sz : Nat, Met l y w rm (xPre D cl tys ws sz av) (va_Qi P (fun u t => xB D cl tys (va_A ws sz) (wf u) t) (va_A ws sz)) 0 0 (va_A ws sz)
/-- the same, or it throws an exception of a class that T names, with its world as it was -/
def xTi (l : Launch) (y : MethodName) (w : List Cond) (rm : Room) (D : va_G) (cl : List vw_C) (tys : List (ClassId × FieldType)) (ws : va_W) (av : List Value) (own : String) (L : List (Nat × String)) {σ : Type} (wf : σ → va_W) (P : Int32 → σ → Prop) (T : String → Prop) (mc ms : Nat) : Prop := ∀ sz : Nat, vx_Met l y w rm (xPreT D cl tys ws sz av own L) (va_Qi P (fun u t => xB D cl tys (va_A ws sz) (wf u) t) (va_A ws sz)) (vx_X (fun _ : Unit => True) (fun E _ t => T E ∧ xB D cl tys (va_A ws sz) ws t) (va_A ws sz)) mc ms (va_A ws sz)
/-- the way out of a method -/
def xei (X : xC) (cc : ByteArray) (mc ms : Nat) {σ : Type} (wf : σ → va_W) (P : Int32 → σ → Prop) : Prop := ∀ (r : Int32) (u : σ) (pc : Nat) (lv : List (Nat × Value)), P r u → decode cc pc = .ok (.ireturn, 1) → xw X mc ms pc lv [.int r] (wf u)
/-- what a method that throws knows: statics and texts; no handlers; the way out -/
def xth : xC → va_W → String → List (Nat × String) → (String → Prop) → Nat → Nat → Prop
  | ((_, _, _, _, s, _, args, below, _, c), (D, cl, A, tys, _, Q)), ws, own, L, T, mc, ms => xE own L A s ∧ (∀ x ∈ c.exceptionTable.toList, False) ∧ ∀ E, T E → (∀ t : State, va_P D cl ws t.heap → va_F A s t → s.vm.Alike t.vm → vx_X (fun _ : Unit => True) (fun E _ t => T E ∧ xB D cl tys A ws t) A E s t) ∧ ∃ Qc, Q = vx_MQ below Qc (vx_X (fun _ : Unit => True) (fun E _ t => T E ∧ xB D cl tys A ws t) A) args s mc ms A
theorem xMi_of {l : Launch} {y : MethodName} {w w' : List Cond} {rm : Room} {D : va_G} {cl : List vw_C} {tys : List (ClassId × FieldType)} {ws : va_W} {av : List Value} {σ : Type} {wf : σ → va_W} {P : Int32 → σ → Prop} {cc : ByteArray} {maxL : Nat}
    (hy : plainName y.cls = true) (hw : w = Cond.code y cc maxL (some .int) :: w') (hav : (lg_sl av).length ≤ maxL)
    (body : ∀ X : xC, xk X l rm D cl tys cc y.cls w maxL → xei X cc 0 0 wf P → xw X 0 0 0 (lv_args 0 av) [] ws) : xMi l y w rm D cl tys ws av wf P := by
  intro sz
  refine Met.ofW (cc := cc) (maxL := maxL) (ret := some .int) hy hw ?_
  intro p e s m args below meth c s₁ B hml hv
  obtain ⟨rfl, hsz, hP, hK, hD0⟩ := hv
  have hx := B.exec
  have hb := B.bytes
  have hr := B.returns
  have hts := atoms_spec (ws := w) B.pre
  have hown : s.vm.findClass y.cls = some m.cls := findClass_of_methodNamed B.named
  have hlocks := B.notSynchronized
  subst hsz
  have hD := hD0.self (sz := s.heap.size)
  have hS : va_S (va_A ws s.heap.size) s.heap s.heap [] := va_S.rf
  have hl := lv_entry av (n := maxL) hav
  rw [lg_entry_eq]
  exact body ((p, l, e, rm, s, m, av.toArray, below, meth, c), (D, cl, va_A ws s.heap.size, tys, maxL, MQ below (va_Qi P (fun u t => xB D cl tys (va_A ws s.heap.size) (wf u) t) (va_A ws s.heap.size)) av.toArray s 0 0 (va_A ws s.heap.size)))
    ⟨rfl, rfl, rfl, rfl, rfl, hx, hb, hml, rfl, hown, hts, hK, fun q h => Or.inr h, hlocks⟩
    (by
      intro r u pc lv hp hd H locs ls hP hD hS hl
      exact W.iret (v := r) hx hb hr (fun t ht hW => ⟨⟨r, u, rfl, hp, by rw [ht]; exact hP, va_K.moved hW.alike hK, hD⟩, hS.F ht⟩) hS.2.2 hd)
    s.heap [] _ hP hD hS hl
theorem xTi_of {l : Launch} {y : MethodName} {w w' : List Cond} {rm : Room} {D : va_G} {cl : List vw_C} {tys : List (ClassId × FieldType)} {ws : va_W} {av : List Value} {own : String} {L : List (Nat × String)} {σ : Type} {wf : σ → va_W} {P : Int32 → σ → Prop} {T : String → Prop} {mc ms : Nat} {cc : ByteArray} {maxL : Nat}
    (hy : plainName y.cls = true) (hw : w = Cond.code y cc maxL (some .int) :: w') (hav : (lg_sl av).length ≤ maxL)
    (body : ∀ X : xC, xk X l rm D cl tys cc y.cls w maxL → xei X cc mc ms wf P → xth X ws own L T mc ms → xw X 0 0 0 (lv_args 0 av) [] ws) : xTi l y w rm D cl tys ws av own L wf P T mc ms := by
  intro sz
  refine vx_ofW (cc := cc) (maxL := maxL) (ret := some .int) hy hw ?_
  intro p e s m args below meth c s₁ B hml hno hv
  obtain ⟨rfl, hsz, hP, hK, hD0, hE⟩ := hv
  have hx := B.exec
  have hb := B.bytes
  have hr := B.returns
  have hts := atoms_spec (ws := w) B.pre
  have hown : s.vm.findClass y.cls = some m.cls := findClass_of_methodNamed B.named
  have hlocks := B.notSynchronized
  subst hsz
  have hD := hD0.self (sz := s.heap.size)
  have hS : va_S (va_A ws s.heap.size) s.heap s.heap [] := va_S.rf
  have hl := lv_entry av (n := maxL) hav
  rw [lg_entry_eq]
  exact body ((p, l, e, rm, s, m, av.toArray, below, meth, c), (D, cl, va_A ws s.heap.size, tys, maxL, vx_MQ below (va_Qi P (fun u t => xB D cl tys (va_A ws s.heap.size) (wf u) t) (va_A ws s.heap.size)) (vx_X (fun _ : Unit => True) (fun E _ t => T E ∧ xB D cl tys (va_A ws s.heap.size) ws t) (va_A ws s.heap.size)) av.toArray s mc ms (va_A ws s.heap.size)))
    ⟨rfl, rfl, rfl, rfl, rfl, hx, hb, hml, rfl, hown, hts, hK, fun q h => Or.inr h, hlocks⟩
    (by
      intro r u pc lv hp hd H locs ls hP hD hS hl
      exact vx_ret (W.iret (v := r) hx hb hr (fun t ht hW => ⟨⟨r, u, rfl, hp, by rw [ht]; exact hP, va_K.moved hW.alike hK, hD⟩, hS.F ht⟩) hS.2.2 hd))
    ⟨hE, fun x hx => absurd (hno x hx) id, fun E hT => ⟨fun t h1 h2 h3 => ⟨(), trivial, ⟨hT, h1, va_K.moved h3 hK, hD⟩, h2⟩, _, rfl⟩⟩
    s.heap [] _ hP hD hS hl
def xMl (l : Launch) (y : MethodName) (w : List Cond) (rm : Room) (D : va_G) (cl : List vw_C) (tys : List (ClassId × FieldType)) (ws : va_W) (av : List Value) {σ : Type} (wf : σ → va_W) (P : Int64 → σ → Prop) : Prop := ∀ sz : Nat, Met l y w rm (xPre D cl tys ws sz av) (va_Ql P (fun u t => xB D cl tys (va_A ws sz) (wf u) t) (va_A ws sz)) 0 0 (va_A ws sz)
/-- the same, or it throws an exception of a class that T names, with its world as it was -/
def xTl (l : Launch) (y : MethodName) (w : List Cond) (rm : Room) (D : va_G) (cl : List vw_C) (tys : List (ClassId × FieldType)) (ws : va_W) (av : List Value) (own : String) (L : List (Nat × String)) {σ : Type} (wf : σ → va_W) (P : Int64 → σ → Prop) (T : String → Prop) (mc ms : Nat) : Prop := ∀ sz : Nat, vx_Met l y w rm (xPreT D cl tys ws sz av own L) (va_Ql P (fun u t => xB D cl tys (va_A ws sz) (wf u) t) (va_A ws sz)) (vx_X (fun _ : Unit => True) (fun E _ t => T E ∧ xB D cl tys (va_A ws sz) ws t) (va_A ws sz)) mc ms (va_A ws sz)
/-- the way out of a method -/
def xel (X : xC) (cc : ByteArray) (mc ms : Nat) {σ : Type} (wf : σ → va_W) (P : Int64 → σ → Prop) : Prop := ∀ (r : Int64) (u : σ) (pc : Nat) (lv : List (Nat × Value)), P r u → decode cc pc = .ok (.lreturn, 1) → xw X mc ms pc lv [.long r] (wf u)
theorem xMl_of {l : Launch} {y : MethodName} {w w' : List Cond} {rm : Room} {D : va_G} {cl : List vw_C} {tys : List (ClassId × FieldType)} {ws : va_W} {av : List Value} {σ : Type} {wf : σ → va_W} {P : Int64 → σ → Prop} {cc : ByteArray} {maxL : Nat}
    (hy : plainName y.cls = true) (hw : w = Cond.code y cc maxL (some .long) :: w') (hav : (lg_sl av).length ≤ maxL)
    (body : ∀ X : xC, xk X l rm D cl tys cc y.cls w maxL → xel X cc 0 0 wf P → xw X 0 0 0 (lv_args 0 av) [] ws) : xMl l y w rm D cl tys ws av wf P := by
  intro sz
  refine Met.ofW (cc := cc) (maxL := maxL) (ret := some .long) hy hw ?_
  intro p e s m args below meth c s₁ B hml hv
  obtain ⟨rfl, hsz, hP, hK, hD0⟩ := hv
  have hx := B.exec
  have hb := B.bytes
  have hr := B.returns
  have hts := atoms_spec (ws := w) B.pre
  have hown : s.vm.findClass y.cls = some m.cls := findClass_of_methodNamed B.named
  have hlocks := B.notSynchronized
  subst hsz
  have hD := hD0.self (sz := s.heap.size)
  have hS : va_S (va_A ws s.heap.size) s.heap s.heap [] := va_S.rf
  have hl := lv_entry av (n := maxL) hav
  rw [lg_entry_eq]
  exact body ((p, l, e, rm, s, m, av.toArray, below, meth, c), (D, cl, va_A ws s.heap.size, tys, maxL, MQ below (va_Ql P (fun u t => xB D cl tys (va_A ws s.heap.size) (wf u) t) (va_A ws s.heap.size)) av.toArray s 0 0 (va_A ws s.heap.size)))
    ⟨rfl, rfl, rfl, rfl, rfl, hx, hb, hml, rfl, hown, hts, hK, fun q h => Or.inr h, hlocks⟩
    (by
      intro r u pc lv hp hd H locs ls hP hD hS hl
      exact W.lret (v := r) hx hb hr (fun t ht hW => ⟨⟨r, u, rfl, hp, by rw [ht]; exact hP, va_K.moved hW.alike hK, hD⟩, hS.F ht⟩) hS.2.2 hd)
    s.heap [] _ hP hD hS hl
theorem xTl_of {l : Launch} {y : MethodName} {w w' : List Cond} {rm : Room} {D : va_G} {cl : List vw_C} {tys : List (ClassId × FieldType)} {ws : va_W} {av : List Value} {own : String} {L : List (Nat × String)} {σ : Type} {wf : σ → va_W} {P : Int64 → σ → Prop} {T : String → Prop} {mc ms : Nat} {cc : ByteArray} {maxL : Nat}
    (hy : plainName y.cls = true) (hw : w = Cond.code y cc maxL (some .long) :: w') (hav : (lg_sl av).length ≤ maxL)
    (body : ∀ X : xC, xk X l rm D cl tys cc y.cls w maxL → xel X cc mc ms wf P → xth X ws own L T mc ms → xw X 0 0 0 (lv_args 0 av) [] ws) : xTl l y w rm D cl tys ws av own L wf P T mc ms := by
  intro sz
  refine vx_ofW (cc := cc) (maxL := maxL) (ret := some .long) hy hw ?_
  intro p e s m args below meth c s₁ B hml hno hv
  obtain ⟨rfl, hsz, hP, hK, hD0, hE⟩ := hv
  have hx := B.exec
  have hb := B.bytes
  have hr := B.returns
  have hts := atoms_spec (ws := w) B.pre
  have hown : s.vm.findClass y.cls = some m.cls := findClass_of_methodNamed B.named
  have hlocks := B.notSynchronized
  subst hsz
  have hD := hD0.self (sz := s.heap.size)
  have hS : va_S (va_A ws s.heap.size) s.heap s.heap [] := va_S.rf
  have hl := lv_entry av (n := maxL) hav
  rw [lg_entry_eq]
  exact body ((p, l, e, rm, s, m, av.toArray, below, meth, c), (D, cl, va_A ws s.heap.size, tys, maxL, vx_MQ below (va_Ql P (fun u t => xB D cl tys (va_A ws s.heap.size) (wf u) t) (va_A ws s.heap.size)) (vx_X (fun _ : Unit => True) (fun E _ t => T E ∧ xB D cl tys (va_A ws s.heap.size) ws t) (va_A ws s.heap.size)) av.toArray s mc ms (va_A ws s.heap.size)))
    ⟨rfl, rfl, rfl, rfl, rfl, hx, hb, hml, rfl, hown, hts, hK, fun q h => Or.inr h, hlocks⟩
    (by
      intro r u pc lv hp hd H locs ls hP hD hS hl
      exact vx_ret (W.lret (v := r) hx hb hr (fun t ht hW => ⟨⟨r, u, rfl, hp, by rw [ht]; exact hP, va_K.moved hW.alike hK, hD⟩, hS.F ht⟩) hS.2.2 hd))
    ⟨hE, fun x hx => absurd (hno x hx) id, fun E hT => ⟨fun t h1 h2 h3 => ⟨(), trivial, ⟨hT, h1, va_K.moved h3 hK, hD⟩, h2⟩, _, rfl⟩⟩
    s.heap [] _ hP hD hS hl
def xMv (l : Launch) (y : MethodName) (w : List Cond) (rm : Room) (D : va_G) (cl : List vw_C) (tys : List (ClassId × FieldType)) (ws : va_W) (av : List Value) {σ : Type} (wf : σ → va_W) (P : σ → Prop) : Prop := ∀ sz : Nat, Met l y w rm (xPre D cl tys ws sz av) (va_Qv P (fun u t => xB D cl tys (va_A ws sz) (wf u) t) (va_A ws sz)) 0 0 (va_A ws sz)
/-- the same, or it throws an exception of a class that T names, with its world as it was -/
def xTv (l : Launch) (y : MethodName) (w : List Cond) (rm : Room) (D : va_G) (cl : List vw_C) (tys : List (ClassId × FieldType)) (ws : va_W) (av : List Value) (own : String) (L : List (Nat × String)) {σ : Type} (wf : σ → va_W) (P : σ → Prop) (T : String → Prop) (mc ms : Nat) : Prop := ∀ sz : Nat, vx_Met l y w rm (xPreT D cl tys ws sz av own L) (va_Qv P (fun u t => xB D cl tys (va_A ws sz) (wf u) t) (va_A ws sz)) (vx_X (fun _ : Unit => True) (fun E _ t => T E ∧ xB D cl tys (va_A ws sz) ws t) (va_A ws sz)) mc ms (va_A ws sz)
/-- the way out of a method -/
def xev (X : xC) (cc : ByteArray) (mc ms : Nat) {σ : Type} (wf : σ → va_W) (P : σ → Prop) : Prop := ∀ (u : σ) (pc : Nat) (lv : List (Nat × Value)), P u → decode cc pc = .ok (.return_, 1) → xw X mc ms pc lv [] (wf u)
theorem xMv_of {l : Launch} {y : MethodName} {w w' : List Cond} {rm : Room} {D : va_G} {cl : List vw_C} {tys : List (ClassId × FieldType)} {ws : va_W} {av : List Value} {σ : Type} {wf : σ → va_W} {P : σ → Prop} {cc : ByteArray} {maxL : Nat}
    (hy : plainName y.cls = true) (hw : w = Cond.code y cc maxL (none) :: w') (hav : (lg_sl av).length ≤ maxL)
    (body : ∀ X : xC, xk X l rm D cl tys cc y.cls w maxL → xev X cc 0 0 wf P → xw X 0 0 0 (lv_args 0 av) [] ws) : xMv l y w rm D cl tys ws av wf P := by
  intro sz
  refine Met.ofW (cc := cc) (maxL := maxL) (ret := none) hy hw ?_
  intro p e s m args below meth c s₁ B hml hv
  obtain ⟨rfl, hsz, hP, hK, hD0⟩ := hv
  have hx := B.exec
  have hb := B.bytes
  have hr := B.returns
  have hts := atoms_spec (ws := w) B.pre
  have hown : s.vm.findClass y.cls = some m.cls := findClass_of_methodNamed B.named
  have hlocks := B.notSynchronized
  subst hsz
  have hD := hD0.self (sz := s.heap.size)
  have hS : va_S (va_A ws s.heap.size) s.heap s.heap [] := va_S.rf
  have hl := lv_entry av (n := maxL) hav
  rw [lg_entry_eq]
  exact body ((p, l, e, rm, s, m, av.toArray, below, meth, c), (D, cl, va_A ws s.heap.size, tys, maxL, MQ below (va_Qv P (fun u t => xB D cl tys (va_A ws s.heap.size) (wf u) t) (va_A ws s.heap.size)) av.toArray s 0 0 (va_A ws s.heap.size)))
    ⟨rfl, rfl, rfl, rfl, rfl, hx, hb, hml, rfl, hown, hts, hK, fun q h => Or.inr h, hlocks⟩
    (by
      intro u pc lv hp hd H locs ls hP hD hS hl
      exact W.vret hx hb hr (fun t ht hW => ⟨⟨u, rfl, hp, by rw [ht]; exact hP, va_K.moved hW.alike hK, hD⟩, hS.F ht⟩) hS.2.2 hd)
    s.heap [] _ hP hD hS hl
theorem xTv_of {l : Launch} {y : MethodName} {w w' : List Cond} {rm : Room} {D : va_G} {cl : List vw_C} {tys : List (ClassId × FieldType)} {ws : va_W} {av : List Value} {own : String} {L : List (Nat × String)} {σ : Type} {wf : σ → va_W} {P : σ → Prop} {T : String → Prop} {mc ms : Nat} {cc : ByteArray} {maxL : Nat}
    (hy : plainName y.cls = true) (hw : w = Cond.code y cc maxL (none) :: w') (hav : (lg_sl av).length ≤ maxL)
    (body : ∀ X : xC, xk X l rm D cl tys cc y.cls w maxL → xev X cc mc ms wf P → xth X ws own L T mc ms → xw X 0 0 0 (lv_args 0 av) [] ws) : xTv l y w rm D cl tys ws av own L wf P T mc ms := by
  intro sz
  refine vx_ofW (cc := cc) (maxL := maxL) (ret := none) hy hw ?_
  intro p e s m args below meth c s₁ B hml hno hv
  obtain ⟨rfl, hsz, hP, hK, hD0, hE⟩ := hv
  have hx := B.exec
  have hb := B.bytes
  have hr := B.returns
  have hts := atoms_spec (ws := w) B.pre
  have hown : s.vm.findClass y.cls = some m.cls := findClass_of_methodNamed B.named
  have hlocks := B.notSynchronized
  subst hsz
  have hD := hD0.self (sz := s.heap.size)
  have hS : va_S (va_A ws s.heap.size) s.heap s.heap [] := va_S.rf
  have hl := lv_entry av (n := maxL) hav
  rw [lg_entry_eq]
  exact body ((p, l, e, rm, s, m, av.toArray, below, meth, c), (D, cl, va_A ws s.heap.size, tys, maxL, vx_MQ below (va_Qv P (fun u t => xB D cl tys (va_A ws s.heap.size) (wf u) t) (va_A ws s.heap.size)) (vx_X (fun _ : Unit => True) (fun E _ t => T E ∧ xB D cl tys (va_A ws s.heap.size) ws t) (va_A ws s.heap.size)) av.toArray s mc ms (va_A ws s.heap.size)))
    ⟨rfl, rfl, rfl, rfl, rfl, hx, hb, hml, rfl, hown, hts, hK, fun q h => Or.inr h, hlocks⟩
    (by
      intro u pc lv hp hd H locs ls hP hD hS hl
      exact vx_ret (W.vret hx hb hr (fun t ht hW => ⟨⟨u, rfl, hp, by rw [ht]; exact hP, va_K.moved hW.alike hK, hD⟩, hS.F ht⟩) hS.2.2 hd))
    ⟨hE, fun x hx => absurd (hno x hx) id, fun E hT => ⟨fun t h1 h2 h3 => ⟨(), trivial, ⟨hT, h1, va_K.moved h3 hK, hD⟩, h2⟩, _, rfl⟩⟩
    s.heap [] _ hP hD hS hl
def xMz (l : Launch) (y : MethodName) (w : List Cond) (rm : Room) (D : va_G) (cl : List vw_C) (tys : List (ClassId × FieldType)) (ws : va_W) (av : List Value) {σ : Type} (wf : σ → va_W) (P : Int32 → σ → Prop) : Prop := ∀ sz : Nat, Met l y w rm (xPre D cl tys ws sz av) (va_Qi P (fun u t => xB D cl tys (va_A ws sz) (wf u) t) (va_A ws sz)) 0 0 (va_A ws sz)
/-- the same, or it throws an exception of a class that T names, with its world as it was -/
def xTz (l : Launch) (y : MethodName) (w : List Cond) (rm : Room) (D : va_G) (cl : List vw_C) (tys : List (ClassId × FieldType)) (ws : va_W) (av : List Value) (own : String) (L : List (Nat × String)) {σ : Type} (wf : σ → va_W) (P : Int32 → σ → Prop) (T : String → Prop) (mc ms : Nat) : Prop := ∀ sz : Nat, vx_Met l y w rm (xPreT D cl tys ws sz av own L) (va_Qi P (fun u t => xB D cl tys (va_A ws sz) (wf u) t) (va_A ws sz)) (vx_X (fun _ : Unit => True) (fun E _ t => T E ∧ xB D cl tys (va_A ws sz) ws t) (va_A ws sz)) mc ms (va_A ws sz)
def xbool (r : Int32) : Prop := narrow .boolean (.int r) = .int r
/-- the way out of a method -/
def xez (X : xC) (cc : ByteArray) (mc ms : Nat) {σ : Type} (wf : σ → va_W) (P : Int32 → σ → Prop) : Prop := ∀ (r : Int32) (u : σ) (pc : Nat) (lv : List (Nat × Value)), P r u → xbool r → decode cc pc = .ok (.ireturn, 1) → xw X mc ms pc lv [.int r] (wf u)
theorem xMz_of {l : Launch} {y : MethodName} {w w' : List Cond} {rm : Room} {D : va_G} {cl : List vw_C} {tys : List (ClassId × FieldType)} {ws : va_W} {av : List Value} {σ : Type} {wf : σ → va_W} {P : Int32 → σ → Prop} {cc : ByteArray} {maxL : Nat}
    (hy : plainName y.cls = true) (hw : w = Cond.code y cc maxL (some .boolean) :: w') (hav : (lg_sl av).length ≤ maxL)
    (body : ∀ X : xC, xk X l rm D cl tys cc y.cls w maxL → xez X cc 0 0 wf P → xw X 0 0 0 (lv_args 0 av) [] ws) : xMz l y w rm D cl tys ws av wf P := by
  intro sz
  refine Met.ofW (cc := cc) (maxL := maxL) (ret := some .boolean) hy hw ?_
  intro p e s m args below meth c s₁ B hml hv
  obtain ⟨rfl, hsz, hP, hK, hD0⟩ := hv
  have hx := B.exec
  have hb := B.bytes
  have hr := B.returns
  have hts := atoms_spec (ws := w) B.pre
  have hown : s.vm.findClass y.cls = some m.cls := findClass_of_methodNamed B.named
  have hlocks := B.notSynchronized
  subst hsz
  have hD := hD0.self (sz := s.heap.size)
  have hS : va_S (va_A ws s.heap.size) s.heap s.heap [] := va_S.rf
  have hl := lv_entry av (n := maxL) hav
  rw [lg_entry_eq]
  exact body ((p, l, e, rm, s, m, av.toArray, below, meth, c), (D, cl, va_A ws s.heap.size, tys, maxL, MQ below (va_Qi P (fun u t => xB D cl tys (va_A ws s.heap.size) (wf u) t) (va_A ws s.heap.size)) av.toArray s 0 0 (va_A ws s.heap.size)))
    ⟨rfl, rfl, rfl, rfl, rfl, hx, hb, hml, rfl, hown, hts, hK, fun q h => Or.inr h, hlocks⟩
    (by
      intro r u pc lv hp hn hd H locs ls hP hD hS hl
      exact W.zret (v := r) hx hb hr hn (fun t ht hW => ⟨⟨r, u, rfl, hp, by rw [ht]; exact hP, va_K.moved hW.alike hK, hD⟩, hS.F ht⟩) hS.2.2 hd)
    s.heap [] _ hP hD hS hl
theorem xTz_of {l : Launch} {y : MethodName} {w w' : List Cond} {rm : Room} {D : va_G} {cl : List vw_C} {tys : List (ClassId × FieldType)} {ws : va_W} {av : List Value} {own : String} {L : List (Nat × String)} {σ : Type} {wf : σ → va_W} {P : Int32 → σ → Prop} {T : String → Prop} {mc ms : Nat} {cc : ByteArray} {maxL : Nat}
    (hy : plainName y.cls = true) (hw : w = Cond.code y cc maxL (some .boolean) :: w') (hav : (lg_sl av).length ≤ maxL)
    (body : ∀ X : xC, xk X l rm D cl tys cc y.cls w maxL → xez X cc mc ms wf P → xth X ws own L T mc ms → xw X 0 0 0 (lv_args 0 av) [] ws) : xTz l y w rm D cl tys ws av own L wf P T mc ms := by
  intro sz
  refine vx_ofW (cc := cc) (maxL := maxL) (ret := some .boolean) hy hw ?_
  intro p e s m args below meth c s₁ B hml hno hv
  obtain ⟨rfl, hsz, hP, hK, hD0, hE⟩ := hv
  have hx := B.exec
  have hb := B.bytes
  have hr := B.returns
  have hts := atoms_spec (ws := w) B.pre
  have hown : s.vm.findClass y.cls = some m.cls := findClass_of_methodNamed B.named
  have hlocks := B.notSynchronized
  subst hsz
  have hD := hD0.self (sz := s.heap.size)
  have hS : va_S (va_A ws s.heap.size) s.heap s.heap [] := va_S.rf
  have hl := lv_entry av (n := maxL) hav
  rw [lg_entry_eq]
  exact body ((p, l, e, rm, s, m, av.toArray, below, meth, c), (D, cl, va_A ws s.heap.size, tys, maxL, vx_MQ below (va_Qi P (fun u t => xB D cl tys (va_A ws s.heap.size) (wf u) t) (va_A ws s.heap.size)) (vx_X (fun _ : Unit => True) (fun E _ t => T E ∧ xB D cl tys (va_A ws s.heap.size) ws t) (va_A ws s.heap.size)) av.toArray s mc ms (va_A ws s.heap.size)))
    ⟨rfl, rfl, rfl, rfl, rfl, hx, hb, hml, rfl, hown, hts, hK, fun q h => Or.inr h, hlocks⟩
    (by
      intro r u pc lv hp hn hd H locs ls hP hD hS hl
      exact vx_ret (W.zret (v := r) hx hb hr hn (fun t ht hW => ⟨⟨r, u, rfl, hp, by rw [ht]; exact hP, va_K.moved hW.alike hK, hD⟩, hS.F ht⟩) hS.2.2 hd))
    ⟨hE, fun x hx => absurd (hno x hx) id, fun E hT => ⟨fun t h1 h2 h3 => ⟨(), trivial, ⟨hT, h1, va_K.moved h3 hK, hD⟩, h2⟩, _, rfl⟩⟩
    s.heap [] _ hP hD hS hl
end
section
/-- a state in which an exception of class E comes out of a call -/
def xwx : xC → Nat → Nat → Nat → List (Nat × Value) → List Value → va_W → String → Prop
  | ((p, l, e, R, s, m, args, below, meth, c), (D, cl, A, _, nL, Q)), cells, slots, pc, lv, st, ws, E => ∀ (H : Heap) (locs : List Loc) (ls : Array Slot) (ce : Cell) (q : Addr), va_P D cl ws H → va_D A ws → va_S A s.heap H locs → lv_has ls nL lv → H[q]? = some ce → ce.vm = .none → s.vm.findClass E = some ce.cls → vx_W p l e R s m args below meth c H locs cells slots Q (F0 m pc ls st) q
def xEx : xC → String → List (Nat × String) → Prop
  | ((_, _, _, _, s, _, _, _, _, _), (_, _, A, _, _, _)), own, L => xE own L A s
theorem xE_go {own : String} {L : List (Nat × String)} {A : Nat → Prop} {s U : State} {H : Heap} {locs : List Loc} {wc : va_W} {sz : Nat} (h : xE own L A s) (hS : va_S A s.heap H locs) (hF : ∀ q, va_A wc sz q → A q) (hU : U.heap = H) (hW : s.WarmedH U.vm) : xE own L (va_A wc sz) U := by
  subst hU
  refine ⟨((h.1.kept hS.2.1).narrow hF).moved hW.alike, ((h.2.1.kept hS.2.1).narrow hF).moved hW.alike, fun q hq => ?_⟩
  obtain ⟨sa, h3⟩ := h.2.2 q hq
  exact ⟨sa, vk_R.warm hW h3⟩
/-- an exception goes out of the method: its world must be as at the beginning -/
theorem x_out {X : xC} {cc : ByteArray} {own : String} {Ts : List Cond} {nL pc : Nat} {lv : List (Nat × Value)} {st : List Value} {ws : va_W} {ow2 : String} {L : List (Nat × String)} {T : String → Prop} {l : Launch} {R : Room} {D : va_G} {cl : List vw_C} {tys : List (ClassId × FieldType)} (K : xk X l R D cl tys cc own Ts nL) {mc ms cells slots : Nat} (hth : xth X ws ow2 L T mc ms) {E : String} (hT : T E) (hc : cells ≤ mc) (hs : slots ≤ ms) : xwx X cells slots pc lv st ws E := by
  obtain ⟨⟨p, l, e, R, s, m, args, below, meth, c⟩, ⟨D, cl, A, tys, nX, Q⟩⟩ := X
  obtain ⟨rfl, rfl, rfl, rfl, rfl, hx, hb, hml, rfl, hown, hts, hK, hA, hlk⟩ := K
  obtain ⟨-, hno, hgo⟩ := hth
  obtain ⟨h1, Qc, rfl⟩ := hgo E hT
  intro H locs ls ce q hP hD hS hl hce hcv hcc
  exact vx_out (fun x hx => absurd (hno x hx) id) hlk hce hcv hcc (fun t ht hal => h1 t (by rw [ht]; exact hP) (hS.F ht) hal) hS.2.2 hc hs
theorem xth_E {X : xC} {ws : va_W} {own : String} {L : List (Nat × String)} {T : String → Prop} {mc ms : Nat} (h : xth X ws own L T mc ms) : xEx X own L := by
  obtain ⟨⟨p, l, e, R, s, m, args, below, meth, c⟩, ⟨D, cl, A, tys, nX, Q⟩⟩ := X
  exact h.1
/-- throw new cls(text) -/
theorem x_throw {X : xC} {cc : ByteArray} {own : String} {Ts : List Cond} {nL pc : Nat} {lv : List (Nat × Value)} {st : List Value} {ws : va_W} {L : List (Nat × String)} {T : String → Prop} {l : Launch} {R : Room} {D : va_G} {cl : List vw_C} {tys : List (ClassId × FieldType)} (K : xk X l R D cl tys cc own Ts nL) {mc ms cells slots : Nat} (hth : xth X ws own L T mc ms) (hst : l.stackTraces = false) {cls text : String} {names : List String} {ik is ic : Nat} (hT : T cls) (hL : (is, text) ∈ L) (hcls : Bundle.fit cls = true) (hnames : ∀ n ∈ names, Bundle.fit n = true) (hw : ∀ w ∈ Cond.classLink own ik cls :: Cond.initialized cls :: vx_atS own ic cls names, w ∈ Ts)
    (hgood : ∀ w ∈ Cond.classLink own ik cls :: Cond.initialized cls :: vx_atS own ic cls names, vx_ot w = true)
    (d0 : decode cc pc = .ok (.new ik, 3)) (d3 : decode cc (pc + 3) = .ok (.dup, 1)) (d4 : decode cc (pc + 4) = .ok (.ldc is, 2)) (d6 : decode cc (pc + 6) = .ok (.invokespecial ic, 3)) (d9 : decode cc (pc + 9) = .ok (.athrow, 1))
    (hRframes : names.length + 3 < R.frames) (hRlocals : (st.map fun v => v.category).sum + (13 * (names.length + 1) + 43) ≤ R.locals) (hRcells : cells + 1 ≤ R.cells) (hRslots : slots + 6 ≤ R.slots) (hmc : cells + 1 ≤ mc) (hms : slots + 6 ≤ ms) : xw X cells slots pc lv st ws := by
  obtain ⟨⟨p, l, e, R, s, m, args, below, meth, c⟩, ⟨D, cl, A, tys, nX, Q⟩⟩ := X
  obtain ⟨rfl, rfl, rfl, rfl, rfl, hx, hb, hml, rfl, hown, hts, hK, hA, hlk⟩ := K
  obtain ⟨hE, hno, hgo⟩ := hth
  obtain ⟨h1, Qc, rfl⟩ := hgo cls hT
  obtain ⟨sa, hstr⟩ := hE.2.2 _ hL
  intro H locs ls hP hD hS hl
  refine vx_throwS hx hb hst hown hcls hnames (hts _ (hw _ List.mem_cons_self)) (hts _ (hw _ (List.mem_cons_of_mem _ List.mem_cons_self))) hstr (fun w h => hts w (hw w (List.mem_cons_of_mem _ (List.mem_cons_of_mem _ h)))) hgood hE.1 hE.2.1 hS (by rw [hl.1, hml]) d0 d3 d4 d6 d9 (fun x hx => absurd (hno x hx) id) hRframes hRlocals hRcells hRslots hlk (fun t hal hsz hke => h1 t (hP.kept (fun k q hq => hke q.1 (vx_lt hP hq))) ⟨Nat.le_trans hS.1 hsz, fun q h1 h2 => ?_⟩ hal) hS.2.2 hmc hms
  rw [hke q (Nat.lt_of_lt_of_le h1 hS.1)]
  exact hS.2.1 q h1 h2
section XCALL
theorem x_callSi {X : xC} {cc : ByteArray} {own : String} {Ts : List Cond} {nL cells slots pc : Nat} {lv : List (Nat × Value)} {st : List Value} {ws : va_W} {l : Launch} {R : Room} {D : va_G} {cl : List vw_C} {tys : List (ClassId × FieldType)} (K : xk X l R D cl tys cc own Ts nL) {y : MethodName} {w w' : List Cond} {rm : Room} {bytes : ByteArray} {maxL n idx : Nat} {av st0 : List Value} {wc : va_W} {σ : Type} {wf : σ → va_W} {P : Int32 → σ → Prop} (hM : xMi l y w rm D cl tys wc av wf P) (hrc : rm.cells = 0) (hrs : rm.slots = 0) (hg : GoodIn Ts (va_wsS own idx y w)) (hw : w = Cond.code y bytes maxL (some .int) :: w') (hd : y.cls ≠ "java/lang/invoke/MethodHandle" ∧ y.cls ≠ "java/lang/invoke/VarHandle" ∧ (parseMethodDescriptor y.desc).map (fun d => d.parameters.length) = some n) (hroom : rm.frames + 1 ≤ R.frames ∧ 8 + (maxL + 11) + rm.locals ≤ R.locals) (hn : av.length = n) (hst : st0 = av.reverse ++ st) (hcat : (st.map fun v => v.category).sum ≤ 8)
    (isC isR : List Nat) {wr : va_W} (hC : isC.map (fun i => ws[i]?) = wc.map some) (hRr : isR.map (fun i => ws[i]?) = wr.map some) (hnC : va_nd isC = true) (hnd : va_nd isR = true) (hdis : ∀ i ∈ isR, i ∉ isC) (d : decode cc pc = .ok (.invokestatic idx, 3)) (hf : cells ≤ R.cells ∧ slots ≤ R.slots)
    (kk : ∀ (r : Int32) (u : σ), P r u → xw X cells slots (pc + 3) lv (.int r :: st) (wr ++ wf u)) : xw X cells slots pc lv st0 ws := by
  obtain ⟨⟨p, l, e, R, s, m, args, below, meth, c⟩, ⟨D, cl, A, tys, nX, Q⟩⟩ := X
  obtain ⟨rfl, rfl, rfl, rfl, rfl, hx, hb, hml, rfl, hown, hts, hK, hA, hlk⟩ := K
  intro H locs ls hP hD hS hl
  have hPc := hP.sub (ws' := wc) isC (xfm hC)
  have hDc := hD.sub (ws' := wc) isC hnC hC
  have hFc := va_free (wc := wc) hD hS hA isC hC
  refine va_calli (va_runS (As := av) (rest := st) ⟨hx, hb, hml, hown, hts⟩ (hM H.size) (va_cwS n hts hg hw hrc hrs hd hroom) ⟨xPre_blind, fun U hU hW => ⟨rfl, by rw [hU], by rw [hU]; exact hPc, va_K.moved hW.alike hK, hDc.weaken (fun _ _ _ _ => trivial)⟩⟩ rfl hn hl.1 hst (lv_room hcat) d hf) hS (fun q _ h => hFc q h) hFc (fun r u t H1 locs ht hvm hw hB hz1 hk1 hS => ?_)
  obtain ⟨hP1, hK1, hD1⟩ := hB
  rw [ht] at hP1
  obtain ⟨hP, hD⟩ := va_join (wr := wr) (w1 := wf u) hP hD isC isR hC hRr hnd hdis hk1 hFc hP1 hD1
  exact kk r u hw H1 locs ls hP hD hS hl
theorem x_tcallSi {X : xC} {cc : ByteArray} {own : String} {Ts : List Cond} {nL cells slots pc : Nat} {lv : List (Nat × Value)} {st : List Value} {ws : va_W} {l : Launch} {R : Room} {D : va_G} {cl : List vw_C} {tys : List (ClassId × FieldType)} (K : xk X l R D cl tys cc own Ts nL) {y : MethodName} {w w' : List Cond} {rm : Room} {bytes : ByteArray} {maxL n idx : Nat} {av st0 : List Value} {wc : va_W} {σ : Type} {wf : σ → va_W} {P : Int32 → σ → Prop} {ow2 : String} {L L2 : List (Nat × String)} {T : String → Prop} (hE : xEx X ow2 L2) (hL : ∀ q ∈ L, q ∈ L2) {mc ms : Nat} (hM : xTi l y w rm D cl tys wc av ow2 L wf P T mc ms) (hrc : rm.cells = mc) (hrs : rm.slots = ms) (hg : GoodIn Ts (va_wsS own idx y w)) (hw : w = Cond.code y bytes maxL (some .int) :: w') (hd : y.cls ≠ "java/lang/invoke/MethodHandle" ∧ y.cls ≠ "java/lang/invoke/VarHandle" ∧ (parseMethodDescriptor y.desc).map (fun d => d.parameters.length) = some n) (hroom : rm.frames + 1 ≤ R.frames ∧ 8 + (maxL + 11) + rm.locals ≤ R.locals) (hn : av.length = n) (hst : st0 = av.reverse ++ st) (hcat : (st.map fun v => v.category).sum ≤ 8)
    (isC isR : List Nat) {wr : va_W} (hC : isC.map (fun i => ws[i]?) = wc.map some) (hRr : isR.map (fun i => ws[i]?) = wr.map some) (hnC : va_nd isC = true) (hnd : va_nd isR = true) (hdis : ∀ i ∈ isR, i ∉ isC) (d : decode cc pc = .ok (.invokestatic idx, 3)) (hf : cells + mc ≤ R.cells ∧ slots + ms ≤ R.slots)
    (kx : ∀ E, T E → xwx X (cells + mc) (slots + ms) pc lv st (wr ++ wc) E) (kk : ∀ (r : Int32) (u : σ), P r u → xw X (cells + mc) (slots + ms) (pc + 3) lv (.int r :: st) (wr ++ wf u)) : xw X cells slots pc lv st0 ws := by
  obtain ⟨⟨p, l, e, R, s, m, args, below, meth, c⟩, ⟨D, cl, A, tys, nX, Q⟩⟩ := X
  obtain ⟨rfl, rfl, rfl, rfl, rfl, hx, hb, hml, rfl, hown, hts, hK, hA, hlk⟩ := K
  intro H locs ls hP hD hS hl
  have hE : xE ow2 L A s := ⟨hE.1, hE.2.1, fun q hq => hE.2.2 q (hL q hq)⟩
  have hPc := hP.sub (ws' := wc) isC (xfm hC)
  have hDc := hD.sub (ws' := wc) isC hnC hC
  have hFc := va_free (wc := wc) hD hS hA isC hC
  refine vx_calli (vx_runS (As := av) (rest := st) ⟨hx, hb, hml, hown, hts⟩ (hM H.size) (va_cwS n hts hg hw hrc hrs hd hroom) ⟨xPreT_blind, fun U hU hW => ⟨rfl, by rw [hU], by rw [hU]; exact hPc, va_K.moved hW.alike hK, hDc.weaken (fun _ _ _ _ => trivial), xE_go hE hS hFc hU hW⟩⟩ rfl hn hl.1 hst (lv_room hcat) d hf) hS (fun q _ h => hFc q h) hFc (fun q _ h => hFc q h) (fun E ce q9 u t H1 locs ht hvm hw hB hz1 hk1 hS hce hcv hcc => ?_) (fun r u t H1 locs ht hvm hw hB hz1 hk1 hS => ?_)
  · obtain ⟨hT, hP1, hK1, hD1⟩ := hB
    rw [ht] at hP1
    obtain ⟨hP, hD⟩ := va_join (wr := wr) (w1 := wc) hP hD isC isR hC hRr hnd hdis hk1 hFc hP1 hD1
    exact kx E hT H1 locs ls ce q9 hP hD hS hl hce hcv hcc
  · obtain ⟨hP1, hK1, hD1⟩ := hB
    rw [ht] at hP1
    obtain ⟨hP, hD⟩ := va_join (wr := wr) (w1 := wf u) hP hD isC isR hC hRr hnd hdis hk1 hFc hP1 hD1
    exact kk r u hw H1 locs ls hP hD hS hl
theorem x_callSl {X : xC} {cc : ByteArray} {own : String} {Ts : List Cond} {nL cells slots pc : Nat} {lv : List (Nat × Value)} {st : List Value} {ws : va_W} {l : Launch} {R : Room} {D : va_G} {cl : List vw_C} {tys : List (ClassId × FieldType)} (K : xk X l R D cl tys cc own Ts nL) {y : MethodName} {w w' : List Cond} {rm : Room} {bytes : ByteArray} {maxL n idx : Nat} {av st0 : List Value} {wc : va_W} {σ : Type} {wf : σ → va_W} {P : Int64 → σ → Prop} (hM : xMl l y w rm D cl tys wc av wf P) (hrc : rm.cells = 0) (hrs : rm.slots = 0) (hg : GoodIn Ts (va_wsS own idx y w)) (hw : w = Cond.code y bytes maxL (some .long) :: w') (hd : y.cls ≠ "java/lang/invoke/MethodHandle" ∧ y.cls ≠ "java/lang/invoke/VarHandle" ∧ (parseMethodDescriptor y.desc).map (fun d => d.parameters.length) = some n) (hroom : rm.frames + 1 ≤ R.frames ∧ 8 + (maxL + 11) + rm.locals ≤ R.locals) (hn : av.length = n) (hst : st0 = av.reverse ++ st) (hcat : (st.map fun v => v.category).sum ≤ 8)
    (isC isR : List Nat) {wr : va_W} (hC : isC.map (fun i => ws[i]?) = wc.map some) (hRr : isR.map (fun i => ws[i]?) = wr.map some) (hnC : va_nd isC = true) (hnd : va_nd isR = true) (hdis : ∀ i ∈ isR, i ∉ isC) (d : decode cc pc = .ok (.invokestatic idx, 3)) (hf : cells ≤ R.cells ∧ slots ≤ R.slots)
    (kk : ∀ (r : Int64) (u : σ), P r u → xw X cells slots (pc + 3) lv (.long r :: st) (wr ++ wf u)) : xw X cells slots pc lv st0 ws := by
  obtain ⟨⟨p, l, e, R, s, m, args, below, meth, c⟩, ⟨D, cl, A, tys, nX, Q⟩⟩ := X
  obtain ⟨rfl, rfl, rfl, rfl, rfl, hx, hb, hml, rfl, hown, hts, hK, hA, hlk⟩ := K
  intro H locs ls hP hD hS hl
  have hPc := hP.sub (ws' := wc) isC (xfm hC)
  have hDc := hD.sub (ws' := wc) isC hnC hC
  have hFc := va_free (wc := wc) hD hS hA isC hC
  refine va_calll (va_runS (As := av) (rest := st) ⟨hx, hb, hml, hown, hts⟩ (hM H.size) (va_cwS n hts hg hw hrc hrs hd hroom) ⟨xPre_blind, fun U hU hW => ⟨rfl, by rw [hU], by rw [hU]; exact hPc, va_K.moved hW.alike hK, hDc.weaken (fun _ _ _ _ => trivial)⟩⟩ rfl hn hl.1 hst (lv_room hcat) d hf) hS (fun q _ h => hFc q h) hFc (fun r u t H1 locs ht hvm hw hB hz1 hk1 hS => ?_)
  obtain ⟨hP1, hK1, hD1⟩ := hB
  rw [ht] at hP1
  obtain ⟨hP, hD⟩ := va_join (wr := wr) (w1 := wf u) hP hD isC isR hC hRr hnd hdis hk1 hFc hP1 hD1
  exact kk r u hw H1 locs ls hP hD hS hl
theorem x_tcallSl {X : xC} {cc : ByteArray} {own : String} {Ts : List Cond} {nL cells slots pc : Nat} {lv : List (Nat × Value)} {st : List Value} {ws : va_W} {l : Launch} {R : Room} {D : va_G} {cl : List vw_C} {tys : List (ClassId × FieldType)} (K : xk X l R D cl tys cc own Ts nL) {y : MethodName} {w w' : List Cond} {rm : Room} {bytes : ByteArray} {maxL n idx : Nat} {av st0 : List Value} {wc : va_W} {σ : Type} {wf : σ → va_W} {P : Int64 → σ → Prop} {ow2 : String} {L L2 : List (Nat × String)} {T : String → Prop} (hE : xEx X ow2 L2) (hL : ∀ q ∈ L, q ∈ L2) {mc ms : Nat} (hM : xTl l y w rm D cl tys wc av ow2 L wf P T mc ms) (hrc : rm.cells = mc) (hrs : rm.slots = ms) (hg : GoodIn Ts (va_wsS own idx y w)) (hw : w = Cond.code y bytes maxL (some .long) :: w') (hd : y.cls ≠ "java/lang/invoke/MethodHandle" ∧ y.cls ≠ "java/lang/invoke/VarHandle" ∧ (parseMethodDescriptor y.desc).map (fun d => d.parameters.length) = some n) (hroom : rm.frames + 1 ≤ R.frames ∧ 8 + (maxL + 11) + rm.locals ≤ R.locals) (hn : av.length = n) (hst : st0 = av.reverse ++ st) (hcat : (st.map fun v => v.category).sum ≤ 8)
    (isC isR : List Nat) {wr : va_W} (hC : isC.map (fun i => ws[i]?) = wc.map some) (hRr : isR.map (fun i => ws[i]?) = wr.map some) (hnC : va_nd isC = true) (hnd : va_nd isR = true) (hdis : ∀ i ∈ isR, i ∉ isC) (d : decode cc pc = .ok (.invokestatic idx, 3)) (hf : cells + mc ≤ R.cells ∧ slots + ms ≤ R.slots)
    (kx : ∀ E, T E → xwx X (cells + mc) (slots + ms) pc lv st (wr ++ wc) E) (kk : ∀ (r : Int64) (u : σ), P r u → xw X (cells + mc) (slots + ms) (pc + 3) lv (.long r :: st) (wr ++ wf u)) : xw X cells slots pc lv st0 ws := by
  obtain ⟨⟨p, l, e, R, s, m, args, below, meth, c⟩, ⟨D, cl, A, tys, nX, Q⟩⟩ := X
  obtain ⟨rfl, rfl, rfl, rfl, rfl, hx, hb, hml, rfl, hown, hts, hK, hA, hlk⟩ := K
  intro H locs ls hP hD hS hl
  have hE : xE ow2 L A s := ⟨hE.1, hE.2.1, fun q hq => hE.2.2 q (hL q hq)⟩
  have hPc := hP.sub (ws' := wc) isC (xfm hC)
  have hDc := hD.sub (ws' := wc) isC hnC hC
  have hFc := va_free (wc := wc) hD hS hA isC hC
  refine vx_calll (vx_runS (As := av) (rest := st) ⟨hx, hb, hml, hown, hts⟩ (hM H.size) (va_cwS n hts hg hw hrc hrs hd hroom) ⟨xPreT_blind, fun U hU hW => ⟨rfl, by rw [hU], by rw [hU]; exact hPc, va_K.moved hW.alike hK, hDc.weaken (fun _ _ _ _ => trivial), xE_go hE hS hFc hU hW⟩⟩ rfl hn hl.1 hst (lv_room hcat) d hf) hS (fun q _ h => hFc q h) hFc (fun q _ h => hFc q h) (fun E ce q9 u t H1 locs ht hvm hw hB hz1 hk1 hS hce hcv hcc => ?_) (fun r u t H1 locs ht hvm hw hB hz1 hk1 hS => ?_)
  · obtain ⟨hT, hP1, hK1, hD1⟩ := hB
    rw [ht] at hP1
    obtain ⟨hP, hD⟩ := va_join (wr := wr) (w1 := wc) hP hD isC isR hC hRr hnd hdis hk1 hFc hP1 hD1
    exact kx E hT H1 locs ls ce q9 hP hD hS hl hce hcv hcc
  · obtain ⟨hP1, hK1, hD1⟩ := hB
    rw [ht] at hP1
    obtain ⟨hP, hD⟩ := va_join (wr := wr) (w1 := wf u) hP hD isC isR hC hRr hnd hdis hk1 hFc hP1 hD1
    exact kk r u hw H1 locs ls hP hD hS hl
theorem x_callSv {X : xC} {cc : ByteArray} {own : String} {Ts : List Cond} {nL cells slots pc : Nat} {lv : List (Nat × Value)} {st : List Value} {ws : va_W} {l : Launch} {R : Room} {D : va_G} {cl : List vw_C} {tys : List (ClassId × FieldType)} (K : xk X l R D cl tys cc own Ts nL) {y : MethodName} {w w' : List Cond} {rm : Room} {bytes : ByteArray} {maxL n idx : Nat} {av st0 : List Value} {wc : va_W} {σ : Type} {wf : σ → va_W} {P : σ → Prop} (hM : xMv l y w rm D cl tys wc av wf P) (hrc : rm.cells = 0) (hrs : rm.slots = 0) (hg : GoodIn Ts (va_wsS own idx y w)) (hw : w = Cond.code y bytes maxL (none) :: w') (hd : y.cls ≠ "java/lang/invoke/MethodHandle" ∧ y.cls ≠ "java/lang/invoke/VarHandle" ∧ (parseMethodDescriptor y.desc).map (fun d => d.parameters.length) = some n) (hroom : rm.frames + 1 ≤ R.frames ∧ 8 + (maxL + 11) + rm.locals ≤ R.locals) (hn : av.length = n) (hst : st0 = av.reverse ++ st) (hcat : (st.map fun v => v.category).sum ≤ 8)
    (isC isR : List Nat) {wr : va_W} (hC : isC.map (fun i => ws[i]?) = wc.map some) (hRr : isR.map (fun i => ws[i]?) = wr.map some) (hnC : va_nd isC = true) (hnd : va_nd isR = true) (hdis : ∀ i ∈ isR, i ∉ isC) (d : decode cc pc = .ok (.invokestatic idx, 3)) (hf : cells ≤ R.cells ∧ slots ≤ R.slots)
    (kk : ∀ (u : σ), P u → xw X cells slots (pc + 3) lv st (wr ++ wf u)) : xw X cells slots pc lv st0 ws := by
  obtain ⟨⟨p, l, e, R, s, m, args, below, meth, c⟩, ⟨D, cl, A, tys, nX, Q⟩⟩ := X
  obtain ⟨rfl, rfl, rfl, rfl, rfl, hx, hb, hml, rfl, hown, hts, hK, hA, hlk⟩ := K
  intro H locs ls hP hD hS hl
  have hPc := hP.sub (ws' := wc) isC (xfm hC)
  have hDc := hD.sub (ws' := wc) isC hnC hC
  have hFc := va_free (wc := wc) hD hS hA isC hC
  refine va_callv (va_runS (As := av) (rest := st) ⟨hx, hb, hml, hown, hts⟩ (hM H.size) (va_cwS n hts hg hw hrc hrs hd hroom) ⟨xPre_blind, fun U hU hW => ⟨rfl, by rw [hU], by rw [hU]; exact hPc, va_K.moved hW.alike hK, hDc.weaken (fun _ _ _ _ => trivial)⟩⟩ rfl hn hl.1 hst (lv_room hcat) d hf) hS (fun q _ h => hFc q h) hFc (fun u t H1 locs ht hvm hw hB hz1 hk1 hS => ?_)
  obtain ⟨hP1, hK1, hD1⟩ := hB
  rw [ht] at hP1
  obtain ⟨hP, hD⟩ := va_join (wr := wr) (w1 := wf u) hP hD isC isR hC hRr hnd hdis hk1 hFc hP1 hD1
  exact kk u hw H1 locs ls hP hD hS hl
theorem x_tcallSv {X : xC} {cc : ByteArray} {own : String} {Ts : List Cond} {nL cells slots pc : Nat} {lv : List (Nat × Value)} {st : List Value} {ws : va_W} {l : Launch} {R : Room} {D : va_G} {cl : List vw_C} {tys : List (ClassId × FieldType)} (K : xk X l R D cl tys cc own Ts nL) {y : MethodName} {w w' : List Cond} {rm : Room} {bytes : ByteArray} {maxL n idx : Nat} {av st0 : List Value} {wc : va_W} {σ : Type} {wf : σ → va_W} {P : σ → Prop} {ow2 : String} {L L2 : List (Nat × String)} {T : String → Prop} (hE : xEx X ow2 L2) (hL : ∀ q ∈ L, q ∈ L2) {mc ms : Nat} (hM : xTv l y w rm D cl tys wc av ow2 L wf P T mc ms) (hrc : rm.cells = mc) (hrs : rm.slots = ms) (hg : GoodIn Ts (va_wsS own idx y w)) (hw : w = Cond.code y bytes maxL (none) :: w') (hd : y.cls ≠ "java/lang/invoke/MethodHandle" ∧ y.cls ≠ "java/lang/invoke/VarHandle" ∧ (parseMethodDescriptor y.desc).map (fun d => d.parameters.length) = some n) (hroom : rm.frames + 1 ≤ R.frames ∧ 8 + (maxL + 11) + rm.locals ≤ R.locals) (hn : av.length = n) (hst : st0 = av.reverse ++ st) (hcat : (st.map fun v => v.category).sum ≤ 8)
    (isC isR : List Nat) {wr : va_W} (hC : isC.map (fun i => ws[i]?) = wc.map some) (hRr : isR.map (fun i => ws[i]?) = wr.map some) (hnC : va_nd isC = true) (hnd : va_nd isR = true) (hdis : ∀ i ∈ isR, i ∉ isC) (d : decode cc pc = .ok (.invokestatic idx, 3)) (hf : cells + mc ≤ R.cells ∧ slots + ms ≤ R.slots)
    (kx : ∀ E, T E → xwx X (cells + mc) (slots + ms) pc lv st (wr ++ wc) E) (kk : ∀ (u : σ), P u → xw X (cells + mc) (slots + ms) (pc + 3) lv st (wr ++ wf u)) : xw X cells slots pc lv st0 ws := by
  obtain ⟨⟨p, l, e, R, s, m, args, below, meth, c⟩, ⟨D, cl, A, tys, nX, Q⟩⟩ := X
  obtain ⟨rfl, rfl, rfl, rfl, rfl, hx, hb, hml, rfl, hown, hts, hK, hA, hlk⟩ := K
  intro H locs ls hP hD hS hl
  have hE : xE ow2 L A s := ⟨hE.1, hE.2.1, fun q hq => hE.2.2 q (hL q hq)⟩
  have hPc := hP.sub (ws' := wc) isC (xfm hC)
  have hDc := hD.sub (ws' := wc) isC hnC hC
  have hFc := va_free (wc := wc) hD hS hA isC hC
  refine vx_callv (vx_runS (As := av) (rest := st) ⟨hx, hb, hml, hown, hts⟩ (hM H.size) (va_cwS n hts hg hw hrc hrs hd hroom) ⟨xPreT_blind, fun U hU hW => ⟨rfl, by rw [hU], by rw [hU]; exact hPc, va_K.moved hW.alike hK, hDc.weaken (fun _ _ _ _ => trivial), xE_go hE hS hFc hU hW⟩⟩ rfl hn hl.1 hst (lv_room hcat) d hf) hS (fun q _ h => hFc q h) hFc (fun q _ h => hFc q h) (fun E ce q9 u t H1 locs ht hvm hw hB hz1 hk1 hS hce hcv hcc => ?_) (fun u t H1 locs ht hvm hw hB hz1 hk1 hS => ?_)
  · obtain ⟨hT, hP1, hK1, hD1⟩ := hB
    rw [ht] at hP1
    obtain ⟨hP, hD⟩ := va_join (wr := wr) (w1 := wc) hP hD isC isR hC hRr hnd hdis hk1 hFc hP1 hD1
    exact kx E hT H1 locs ls ce q9 hP hD hS hl hce hcv hcc
  · obtain ⟨hP1, hK1, hD1⟩ := hB
    rw [ht] at hP1
    obtain ⟨hP, hD⟩ := va_join (wr := wr) (w1 := wf u) hP hD isC isR hC hRr hnd hdis hk1 hFc hP1 hD1
    exact kk u hw H1 locs ls hP hD hS hl
theorem x_callSz {X : xC} {cc : ByteArray} {own : String} {Ts : List Cond} {nL cells slots pc : Nat} {lv : List (Nat × Value)} {st : List Value} {ws : va_W} {l : Launch} {R : Room} {D : va_G} {cl : List vw_C} {tys : List (ClassId × FieldType)} (K : xk X l R D cl tys cc own Ts nL) {y : MethodName} {w w' : List Cond} {rm : Room} {bytes : ByteArray} {maxL n idx : Nat} {av st0 : List Value} {wc : va_W} {σ : Type} {wf : σ → va_W} {P : Int32 → σ → Prop} (hM : xMz l y w rm D cl tys wc av wf P) (hrc : rm.cells = 0) (hrs : rm.slots = 0) (hg : GoodIn Ts (va_wsS own idx y w)) (hw : w = Cond.code y bytes maxL (some .boolean) :: w') (hd : y.cls ≠ "java/lang/invoke/MethodHandle" ∧ y.cls ≠ "java/lang/invoke/VarHandle" ∧ (parseMethodDescriptor y.desc).map (fun d => d.parameters.length) = some n) (hroom : rm.frames + 1 ≤ R.frames ∧ 8 + (maxL + 11) + rm.locals ≤ R.locals) (hn : av.length = n) (hst : st0 = av.reverse ++ st) (hcat : (st.map fun v => v.category).sum ≤ 8)
    (isC isR : List Nat) {wr : va_W} (hC : isC.map (fun i => ws[i]?) = wc.map some) (hRr : isR.map (fun i => ws[i]?) = wr.map some) (hnC : va_nd isC = true) (hnd : va_nd isR = true) (hdis : ∀ i ∈ isR, i ∉ isC) (d : decode cc pc = .ok (.invokestatic idx, 3)) (hf : cells ≤ R.cells ∧ slots ≤ R.slots)
    (kk : ∀ (r : Int32) (u : σ), P r u → xw X cells slots (pc + 3) lv (.int r :: st) (wr ++ wf u)) : xw X cells slots pc lv st0 ws := by
  obtain ⟨⟨p, l, e, R, s, m, args, below, meth, c⟩, ⟨D, cl, A, tys, nX, Q⟩⟩ := X
  obtain ⟨rfl, rfl, rfl, rfl, rfl, hx, hb, hml, rfl, hown, hts, hK, hA, hlk⟩ := K
  intro H locs ls hP hD hS hl
  have hPc := hP.sub (ws' := wc) isC (xfm hC)
  have hDc := hD.sub (ws' := wc) isC hnC hC
  have hFc := va_free (wc := wc) hD hS hA isC hC
  refine va_calli (va_runS (As := av) (rest := st) ⟨hx, hb, hml, hown, hts⟩ (hM H.size) (va_cwS n hts hg hw hrc hrs hd hroom) ⟨xPre_blind, fun U hU hW => ⟨rfl, by rw [hU], by rw [hU]; exact hPc, va_K.moved hW.alike hK, hDc.weaken (fun _ _ _ _ => trivial)⟩⟩ rfl hn hl.1 hst (lv_room hcat) d hf) hS (fun q _ h => hFc q h) hFc (fun r u t H1 locs ht hvm hw hB hz1 hk1 hS => ?_)
  obtain ⟨hP1, hK1, hD1⟩ := hB
  rw [ht] at hP1
  obtain ⟨hP, hD⟩ := va_join (wr := wr) (w1 := wf u) hP hD isC isR hC hRr hnd hdis hk1 hFc hP1 hD1
  exact kk r u hw H1 locs ls hP hD hS hl
theorem x_tcallSz {X : xC} {cc : ByteArray} {own : String} {Ts : List Cond} {nL cells slots pc : Nat} {lv : List (Nat × Value)} {st : List Value} {ws : va_W} {l : Launch} {R : Room} {D : va_G} {cl : List vw_C} {tys : List (ClassId × FieldType)} (K : xk X l R D cl tys cc own Ts nL) {y : MethodName} {w w' : List Cond} {rm : Room} {bytes : ByteArray} {maxL n idx : Nat} {av st0 : List Value} {wc : va_W} {σ : Type} {wf : σ → va_W} {P : Int32 → σ → Prop} {ow2 : String} {L L2 : List (Nat × String)} {T : String → Prop} (hE : xEx X ow2 L2) (hL : ∀ q ∈ L, q ∈ L2) {mc ms : Nat} (hM : xTz l y w rm D cl tys wc av ow2 L wf P T mc ms) (hrc : rm.cells = mc) (hrs : rm.slots = ms) (hg : GoodIn Ts (va_wsS own idx y w)) (hw : w = Cond.code y bytes maxL (some .boolean) :: w') (hd : y.cls ≠ "java/lang/invoke/MethodHandle" ∧ y.cls ≠ "java/lang/invoke/VarHandle" ∧ (parseMethodDescriptor y.desc).map (fun d => d.parameters.length) = some n) (hroom : rm.frames + 1 ≤ R.frames ∧ 8 + (maxL + 11) + rm.locals ≤ R.locals) (hn : av.length = n) (hst : st0 = av.reverse ++ st) (hcat : (st.map fun v => v.category).sum ≤ 8)
    (isC isR : List Nat) {wr : va_W} (hC : isC.map (fun i => ws[i]?) = wc.map some) (hRr : isR.map (fun i => ws[i]?) = wr.map some) (hnC : va_nd isC = true) (hnd : va_nd isR = true) (hdis : ∀ i ∈ isR, i ∉ isC) (d : decode cc pc = .ok (.invokestatic idx, 3)) (hf : cells + mc ≤ R.cells ∧ slots + ms ≤ R.slots)
    (kx : ∀ E, T E → xwx X (cells + mc) (slots + ms) pc lv st (wr ++ wc) E) (kk : ∀ (r : Int32) (u : σ), P r u → xw X (cells + mc) (slots + ms) (pc + 3) lv (.int r :: st) (wr ++ wf u)) : xw X cells slots pc lv st0 ws := by
  obtain ⟨⟨p, l, e, R, s, m, args, below, meth, c⟩, ⟨D, cl, A, tys, nX, Q⟩⟩ := X
  obtain ⟨rfl, rfl, rfl, rfl, rfl, hx, hb, hml, rfl, hown, hts, hK, hA, hlk⟩ := K
  intro H locs ls hP hD hS hl
  have hE : xE ow2 L A s := ⟨hE.1, hE.2.1, fun q hq => hE.2.2 q (hL q hq)⟩
  have hPc := hP.sub (ws' := wc) isC (xfm hC)
  have hDc := hD.sub (ws' := wc) isC hnC hC
  have hFc := va_free (wc := wc) hD hS hA isC hC
  refine vx_calli (vx_runS (As := av) (rest := st) ⟨hx, hb, hml, hown, hts⟩ (hM H.size) (va_cwS n hts hg hw hrc hrs hd hroom) ⟨xPreT_blind, fun U hU hW => ⟨rfl, by rw [hU], by rw [hU]; exact hPc, va_K.moved hW.alike hK, hDc.weaken (fun _ _ _ _ => trivial), xE_go hE hS hFc hU hW⟩⟩ rfl hn hl.1 hst (lv_room hcat) d hf) hS (fun q _ h => hFc q h) hFc (fun q _ h => hFc q h) (fun E ce q9 u t H1 locs ht hvm hw hB hz1 hk1 hS hce hcv hcc => ?_) (fun r u t H1 locs ht hvm hw hB hz1 hk1 hS => ?_)
  · obtain ⟨hT, hP1, hK1, hD1⟩ := hB
    rw [ht] at hP1
    obtain ⟨hP, hD⟩ := va_join (wr := wr) (w1 := wc) hP hD isC isR hC hRr hnd hdis hk1 hFc hP1 hD1
    exact kx E hT H1 locs ls ce q9 hP hD hS hl hce hcv hcc
  · obtain ⟨hP1, hK1, hD1⟩ := hB
    rw [ht] at hP1
    obtain ⟨hP, hD⟩ := va_join (wr := wr) (w1 := wf u) hP hD isC isR hC hRr hnd hdis hk1 hFc hP1 hD1
    exact kk r u hw H1 locs ls hP hD hS hl
theorem x_callVi {X : xC} {cc : ByteArray} {own : String} {Ts : List Cond} {nL cells slots pc : Nat} {lv : List (Nat × Value)} {st : List Value} {ws : va_W} {l : Launch} {R : Room} {D : va_G} {cl : List vw_C} {tys : List (ClassId × FieldType)} (K : xk X l R D cl tys cc own Ts nL) {y : MethodName} {w w' : List Cond} {rm : Room} {bytes : ByteArray} {maxL n idx : Nat} {b ci q0 : Nat} {fs : List Value} {q : vw_C} {av st0 : List Value} {wc : va_W} {σ : Type} {wf : σ → va_W} {P : Int32 → σ → Prop} (hM : xMi l y w rm D cl tys wc (.ref b :: av) wf P) (hrc : rm.cells = 0) (hrs : rm.slots = 0) (hg : GoodIn Ts (wsV own idx q.1 y w)) (hw : w = Cond.code y bytes maxL (some .int) :: w') (hd : y.cls = q.1 ∧ y.cls ≠ "java/lang/invoke/MethodHandle" ∧ y.cls ≠ "java/lang/invoke/VarHandle" ∧ (parseMethodDescriptor y.desc).map (fun d => d.parameters.length) = some n) (hroom : rm.frames + 1 ≤ R.frames ∧ 8 + (maxL + 11) + rm.locals ≤ R.locals) (hn : av.length = n) (hst : st0 = av.reverse ++ .ref b :: st) (hq : cl[ci]? = some q) (hrec : wc[q0]? = some (b, .inr (ci, fs))) (hcat : (st.map fun v => v.category).sum ≤ 8)
    (isC isR : List Nat) {wr : va_W} (hC : isC.map (fun i => ws[i]?) = wc.map some) (hRr : isR.map (fun i => ws[i]?) = wr.map some) (hnC : va_nd isC = true) (hnd : va_nd isR = true) (hdis : ∀ i ∈ isR, i ∉ isC) (d : decode cc pc = .ok (.invokevirtual idx, 3)) (hf : cells ≤ R.cells ∧ slots ≤ R.slots)
    (kk : ∀ (r : Int32) (u : σ), P r u → xw X cells slots (pc + 3) lv (.int r :: st) (wr ++ wf u)) : xw X cells slots pc lv st0 ws := by
  obtain ⟨⟨p, l, e, R, s, m, args, below, meth, c⟩, ⟨D, cl, A, tys, nX, Q⟩⟩ := X
  obtain ⟨rfl, rfl, rfl, rfl, rfl, hx, hb, hml, rfl, hown, hts, hK, hA, hlk⟩ := K
  intro H locs ls hP hD hS hl
  have hPc := hP.sub (ws' := wc) isC (xfm hC)
  have hDc := hD.sub (ws' := wc) isC hnC hC
  have hFc := va_free (wc := wc) hD hS hA isC hC
  refine va_calli (va_runV (As := av) (rest := st) ⟨hx, hb, hml, hown, hts⟩ (hM H.size) (cwV n hts hg hw hrc hrs hd hroom) ⟨xPre_blind, va_recv hK hPc hq hrec, fun U hU hW => ⟨rfl, by rw [hU], by rw [hU]; exact hPc, va_K.moved hW.alike hK, hDc.weaken (fun _ _ _ _ => trivial)⟩⟩ rfl hn hl.1 hst (lv_room hcat) d hf) hS (fun q _ h => hFc q h) hFc (fun r u t H1 locs ht hvm hw hB hz1 hk1 hS => ?_)
  obtain ⟨hP1, hK1, hD1⟩ := hB
  rw [ht] at hP1
  obtain ⟨hP, hD⟩ := va_join (wr := wr) (w1 := wf u) hP hD isC isR hC hRr hnd hdis hk1 hFc hP1 hD1
  exact kk r u hw H1 locs ls hP hD hS hl
theorem x_tcallVi {X : xC} {cc : ByteArray} {own : String} {Ts : List Cond} {nL cells slots pc : Nat} {lv : List (Nat × Value)} {st : List Value} {ws : va_W} {l : Launch} {R : Room} {D : va_G} {cl : List vw_C} {tys : List (ClassId × FieldType)} (K : xk X l R D cl tys cc own Ts nL) {y : MethodName} {w w' : List Cond} {rm : Room} {bytes : ByteArray} {maxL n idx : Nat} {b ci q0 : Nat} {fs : List Value} {q : vw_C} {av st0 : List Value} {wc : va_W} {σ : Type} {wf : σ → va_W} {P : Int32 → σ → Prop} {ow2 : String} {L L2 : List (Nat × String)} {T : String → Prop} (hE : xEx X ow2 L2) (hL : ∀ q ∈ L, q ∈ L2) {mc ms : Nat} (hM : xTi l y w rm D cl tys wc (.ref b :: av) ow2 L wf P T mc ms) (hrc : rm.cells = mc) (hrs : rm.slots = ms) (hg : GoodIn Ts (wsV own idx q.1 y w)) (hw : w = Cond.code y bytes maxL (some .int) :: w') (hd : y.cls = q.1 ∧ y.cls ≠ "java/lang/invoke/MethodHandle" ∧ y.cls ≠ "java/lang/invoke/VarHandle" ∧ (parseMethodDescriptor y.desc).map (fun d => d.parameters.length) = some n) (hroom : rm.frames + 1 ≤ R.frames ∧ 8 + (maxL + 11) + rm.locals ≤ R.locals) (hn : av.length = n) (hst : st0 = av.reverse ++ .ref b :: st) (hq : cl[ci]? = some q) (hrec : wc[q0]? = some (b, .inr (ci, fs))) (hcat : (st.map fun v => v.category).sum ≤ 8)
    (isC isR : List Nat) {wr : va_W} (hC : isC.map (fun i => ws[i]?) = wc.map some) (hRr : isR.map (fun i => ws[i]?) = wr.map some) (hnC : va_nd isC = true) (hnd : va_nd isR = true) (hdis : ∀ i ∈ isR, i ∉ isC) (d : decode cc pc = .ok (.invokevirtual idx, 3)) (hf : cells + mc ≤ R.cells ∧ slots + ms ≤ R.slots)
    (kx : ∀ E, T E → xwx X (cells + mc) (slots + ms) pc lv st (wr ++ wc) E) (kk : ∀ (r : Int32) (u : σ), P r u → xw X (cells + mc) (slots + ms) (pc + 3) lv (.int r :: st) (wr ++ wf u)) : xw X cells slots pc lv st0 ws := by
  obtain ⟨⟨p, l, e, R, s, m, args, below, meth, c⟩, ⟨D, cl, A, tys, nX, Q⟩⟩ := X
  obtain ⟨rfl, rfl, rfl, rfl, rfl, hx, hb, hml, rfl, hown, hts, hK, hA, hlk⟩ := K
  intro H locs ls hP hD hS hl
  have hE : xE ow2 L A s := ⟨hE.1, hE.2.1, fun q hq => hE.2.2 q (hL q hq)⟩
  have hPc := hP.sub (ws' := wc) isC (xfm hC)
  have hDc := hD.sub (ws' := wc) isC hnC hC
  have hFc := va_free (wc := wc) hD hS hA isC hC
  refine vx_calli (vx_runV (As := av) (rest := st) ⟨hx, hb, hml, hown, hts⟩ (hM H.size) (cwV n hts hg hw hrc hrs hd hroom) ⟨xPreT_blind, va_recv hK hPc hq hrec, fun U hU hW => ⟨rfl, by rw [hU], by rw [hU]; exact hPc, va_K.moved hW.alike hK, hDc.weaken (fun _ _ _ _ => trivial), xE_go hE hS hFc hU hW⟩⟩ rfl hn hl.1 hst (lv_room hcat) d hf) hS (fun q _ h => hFc q h) hFc (fun q _ h => hFc q h) (fun E ce q9 u t H1 locs ht hvm hw hB hz1 hk1 hS hce hcv hcc => ?_) (fun r u t H1 locs ht hvm hw hB hz1 hk1 hS => ?_)
  · obtain ⟨hT, hP1, hK1, hD1⟩ := hB
    rw [ht] at hP1
    obtain ⟨hP, hD⟩ := va_join (wr := wr) (w1 := wc) hP hD isC isR hC hRr hnd hdis hk1 hFc hP1 hD1
    exact kx E hT H1 locs ls ce q9 hP hD hS hl hce hcv hcc
  · obtain ⟨hP1, hK1, hD1⟩ := hB
    rw [ht] at hP1
    obtain ⟨hP, hD⟩ := va_join (wr := wr) (w1 := wf u) hP hD isC isR hC hRr hnd hdis hk1 hFc hP1 hD1
    exact kk r u hw H1 locs ls hP hD hS hl
theorem x_callVl {X : xC} {cc : ByteArray} {own : String} {Ts : List Cond} {nL cells slots pc : Nat} {lv : List (Nat × Value)} {st : List Value} {ws : va_W} {l : Launch} {R : Room} {D : va_G} {cl : List vw_C} {tys : List (ClassId × FieldType)} (K : xk X l R D cl tys cc own Ts nL) {y : MethodName} {w w' : List Cond} {rm : Room} {bytes : ByteArray} {maxL n idx : Nat} {b ci q0 : Nat} {fs : List Value} {q : vw_C} {av st0 : List Value} {wc : va_W} {σ : Type} {wf : σ → va_W} {P : Int64 → σ → Prop} (hM : xMl l y w rm D cl tys wc (.ref b :: av) wf P) (hrc : rm.cells = 0) (hrs : rm.slots = 0) (hg : GoodIn Ts (wsV own idx q.1 y w)) (hw : w = Cond.code y bytes maxL (some .long) :: w') (hd : y.cls = q.1 ∧ y.cls ≠ "java/lang/invoke/MethodHandle" ∧ y.cls ≠ "java/lang/invoke/VarHandle" ∧ (parseMethodDescriptor y.desc).map (fun d => d.parameters.length) = some n) (hroom : rm.frames + 1 ≤ R.frames ∧ 8 + (maxL + 11) + rm.locals ≤ R.locals) (hn : av.length = n) (hst : st0 = av.reverse ++ .ref b :: st) (hq : cl[ci]? = some q) (hrec : wc[q0]? = some (b, .inr (ci, fs))) (hcat : (st.map fun v => v.category).sum ≤ 8)
    (isC isR : List Nat) {wr : va_W} (hC : isC.map (fun i => ws[i]?) = wc.map some) (hRr : isR.map (fun i => ws[i]?) = wr.map some) (hnC : va_nd isC = true) (hnd : va_nd isR = true) (hdis : ∀ i ∈ isR, i ∉ isC) (d : decode cc pc = .ok (.invokevirtual idx, 3)) (hf : cells ≤ R.cells ∧ slots ≤ R.slots)
    (kk : ∀ (r : Int64) (u : σ), P r u → xw X cells slots (pc + 3) lv (.long r :: st) (wr ++ wf u)) : xw X cells slots pc lv st0 ws := by
  obtain ⟨⟨p, l, e, R, s, m, args, below, meth, c⟩, ⟨D, cl, A, tys, nX, Q⟩⟩ := X
  obtain ⟨rfl, rfl, rfl, rfl, rfl, hx, hb, hml, rfl, hown, hts, hK, hA, hlk⟩ := K
  intro H locs ls hP hD hS hl
  have hPc := hP.sub (ws' := wc) isC (xfm hC)
  have hDc := hD.sub (ws' := wc) isC hnC hC
  have hFc := va_free (wc := wc) hD hS hA isC hC
  refine va_calll (va_runV (As := av) (rest := st) ⟨hx, hb, hml, hown, hts⟩ (hM H.size) (cwV n hts hg hw hrc hrs hd hroom) ⟨xPre_blind, va_recv hK hPc hq hrec, fun U hU hW => ⟨rfl, by rw [hU], by rw [hU]; exact hPc, va_K.moved hW.alike hK, hDc.weaken (fun _ _ _ _ => trivial)⟩⟩ rfl hn hl.1 hst (lv_room hcat) d hf) hS (fun q _ h => hFc q h) hFc (fun r u t H1 locs ht hvm hw hB hz1 hk1 hS => ?_)
  obtain ⟨hP1, hK1, hD1⟩ := hB
  rw [ht] at hP1
  obtain ⟨hP, hD⟩ := va_join (wr := wr) (w1 := wf u) hP hD isC isR hC hRr hnd hdis hk1 hFc hP1 hD1
  exact kk r u hw H1 locs ls hP hD hS hl
theorem x_tcallVl {X : xC} {cc : ByteArray} {own : String} {Ts : List Cond} {nL cells slots pc : Nat} {lv : List (Nat × Value)} {st : List Value} {ws : va_W} {l : Launch} {R : Room} {D : va_G} {cl : List vw_C} {tys : List (ClassId × FieldType)} (K : xk X l R D cl tys cc own Ts nL) {y : MethodName} {w w' : List Cond} {rm : Room} {bytes : ByteArray} {maxL n idx : Nat} {b ci q0 : Nat} {fs : List Value} {q : vw_C} {av st0 : List Value} {wc : va_W} {σ : Type} {wf : σ → va_W} {P : Int64 → σ → Prop} {ow2 : String} {L L2 : List (Nat × String)} {T : String → Prop} (hE : xEx X ow2 L2) (hL : ∀ q ∈ L, q ∈ L2) {mc ms : Nat} (hM : xTl l y w rm D cl tys wc (.ref b :: av) ow2 L wf P T mc ms) (hrc : rm.cells = mc) (hrs : rm.slots = ms) (hg : GoodIn Ts (wsV own idx q.1 y w)) (hw : w = Cond.code y bytes maxL (some .long) :: w') (hd : y.cls = q.1 ∧ y.cls ≠ "java/lang/invoke/MethodHandle" ∧ y.cls ≠ "java/lang/invoke/VarHandle" ∧ (parseMethodDescriptor y.desc).map (fun d => d.parameters.length) = some n) (hroom : rm.frames + 1 ≤ R.frames ∧ 8 + (maxL + 11) + rm.locals ≤ R.locals) (hn : av.length = n) (hst : st0 = av.reverse ++ .ref b :: st) (hq : cl[ci]? = some q) (hrec : wc[q0]? = some (b, .inr (ci, fs))) (hcat : (st.map fun v => v.category).sum ≤ 8)
    (isC isR : List Nat) {wr : va_W} (hC : isC.map (fun i => ws[i]?) = wc.map some) (hRr : isR.map (fun i => ws[i]?) = wr.map some) (hnC : va_nd isC = true) (hnd : va_nd isR = true) (hdis : ∀ i ∈ isR, i ∉ isC) (d : decode cc pc = .ok (.invokevirtual idx, 3)) (hf : cells + mc ≤ R.cells ∧ slots + ms ≤ R.slots)
    (kx : ∀ E, T E → xwx X (cells + mc) (slots + ms) pc lv st (wr ++ wc) E) (kk : ∀ (r : Int64) (u : σ), P r u → xw X (cells + mc) (slots + ms) (pc + 3) lv (.long r :: st) (wr ++ wf u)) : xw X cells slots pc lv st0 ws := by
  obtain ⟨⟨p, l, e, R, s, m, args, below, meth, c⟩, ⟨D, cl, A, tys, nX, Q⟩⟩ := X
  obtain ⟨rfl, rfl, rfl, rfl, rfl, hx, hb, hml, rfl, hown, hts, hK, hA, hlk⟩ := K
  intro H locs ls hP hD hS hl
  have hE : xE ow2 L A s := ⟨hE.1, hE.2.1, fun q hq => hE.2.2 q (hL q hq)⟩
  have hPc := hP.sub (ws' := wc) isC (xfm hC)
  have hDc := hD.sub (ws' := wc) isC hnC hC
  have hFc := va_free (wc := wc) hD hS hA isC hC
  refine vx_calll (vx_runV (As := av) (rest := st) ⟨hx, hb, hml, hown, hts⟩ (hM H.size) (cwV n hts hg hw hrc hrs hd hroom) ⟨xPreT_blind, va_recv hK hPc hq hrec, fun U hU hW => ⟨rfl, by rw [hU], by rw [hU]; exact hPc, va_K.moved hW.alike hK, hDc.weaken (fun _ _ _ _ => trivial), xE_go hE hS hFc hU hW⟩⟩ rfl hn hl.1 hst (lv_room hcat) d hf) hS (fun q _ h => hFc q h) hFc (fun q _ h => hFc q h) (fun E ce q9 u t H1 locs ht hvm hw hB hz1 hk1 hS hce hcv hcc => ?_) (fun r u t H1 locs ht hvm hw hB hz1 hk1 hS => ?_)
  · obtain ⟨hT, hP1, hK1, hD1⟩ := hB
    rw [ht] at hP1
    obtain ⟨hP, hD⟩ := va_join (wr := wr) (w1 := wc) hP hD isC isR hC hRr hnd hdis hk1 hFc hP1 hD1
    exact kx E hT H1 locs ls ce q9 hP hD hS hl hce hcv hcc
  · obtain ⟨hP1, hK1, hD1⟩ := hB
    rw [ht] at hP1
    obtain ⟨hP, hD⟩ := va_join (wr := wr) (w1 := wf u) hP hD isC isR hC hRr hnd hdis hk1 hFc hP1 hD1
    exact kk r u hw H1 locs ls hP hD hS hl
theorem x_callVv {X : xC} {cc : ByteArray} {own : String} {Ts : List Cond} {nL cells slots pc : Nat} {lv : List (Nat × Value)} {st : List Value} {ws : va_W} {l : Launch} {R : Room} {D : va_G} {cl : List vw_C} {tys : List (ClassId × FieldType)} (K : xk X l R D cl tys cc own Ts nL) {y : MethodName} {w w' : List Cond} {rm : Room} {bytes : ByteArray} {maxL n idx : Nat} {b ci q0 : Nat} {fs : List Value} {q : vw_C} {av st0 : List Value} {wc : va_W} {σ : Type} {wf : σ → va_W} {P : σ → Prop} (hM : xMv l y w rm D cl tys wc (.ref b :: av) wf P) (hrc : rm.cells = 0) (hrs : rm.slots = 0) (hg : GoodIn Ts (wsV own idx q.1 y w)) (hw : w = Cond.code y bytes maxL (none) :: w') (hd : y.cls = q.1 ∧ y.cls ≠ "java/lang/invoke/MethodHandle" ∧ y.cls ≠ "java/lang/invoke/VarHandle" ∧ (parseMethodDescriptor y.desc).map (fun d => d.parameters.length) = some n) (hroom : rm.frames + 1 ≤ R.frames ∧ 8 + (maxL + 11) + rm.locals ≤ R.locals) (hn : av.length = n) (hst : st0 = av.reverse ++ .ref b :: st) (hq : cl[ci]? = some q) (hrec : wc[q0]? = some (b, .inr (ci, fs))) (hcat : (st.map fun v => v.category).sum ≤ 8)
    (isC isR : List Nat) {wr : va_W} (hC : isC.map (fun i => ws[i]?) = wc.map some) (hRr : isR.map (fun i => ws[i]?) = wr.map some) (hnC : va_nd isC = true) (hnd : va_nd isR = true) (hdis : ∀ i ∈ isR, i ∉ isC) (d : decode cc pc = .ok (.invokevirtual idx, 3)) (hf : cells ≤ R.cells ∧ slots ≤ R.slots)
    (kk : ∀ (u : σ), P u → xw X cells slots (pc + 3) lv st (wr ++ wf u)) : xw X cells slots pc lv st0 ws := by
  obtain ⟨⟨p, l, e, R, s, m, args, below, meth, c⟩, ⟨D, cl, A, tys, nX, Q⟩⟩ := X
  obtain ⟨rfl, rfl, rfl, rfl, rfl, hx, hb, hml, rfl, hown, hts, hK, hA, hlk⟩ := K
  intro H locs ls hP hD hS hl
  have hPc := hP.sub (ws' := wc) isC (xfm hC)
  have hDc := hD.sub (ws' := wc) isC hnC hC
  have hFc := va_free (wc := wc) hD hS hA isC hC
  refine va_callv (va_runV (As := av) (rest := st) ⟨hx, hb, hml, hown, hts⟩ (hM H.size) (cwV n hts hg hw hrc hrs hd hroom) ⟨xPre_blind, va_recv hK hPc hq hrec, fun U hU hW => ⟨rfl, by rw [hU], by rw [hU]; exact hPc, va_K.moved hW.alike hK, hDc.weaken (fun _ _ _ _ => trivial)⟩⟩ rfl hn hl.1 hst (lv_room hcat) d hf) hS (fun q _ h => hFc q h) hFc (fun u t H1 locs ht hvm hw hB hz1 hk1 hS => ?_)
  obtain ⟨hP1, hK1, hD1⟩ := hB
  rw [ht] at hP1
  obtain ⟨hP, hD⟩ := va_join (wr := wr) (w1 := wf u) hP hD isC isR hC hRr hnd hdis hk1 hFc hP1 hD1
  exact kk u hw H1 locs ls hP hD hS hl
theorem x_tcallVv {X : xC} {cc : ByteArray} {own : String} {Ts : List Cond} {nL cells slots pc : Nat} {lv : List (Nat × Value)} {st : List Value} {ws : va_W} {l : Launch} {R : Room} {D : va_G} {cl : List vw_C} {tys : List (ClassId × FieldType)} (K : xk X l R D cl tys cc own Ts nL) {y : MethodName} {w w' : List Cond} {rm : Room} {bytes : ByteArray} {maxL n idx : Nat} {b ci q0 : Nat} {fs : List Value} {q : vw_C} {av st0 : List Value} {wc : va_W} {σ : Type} {wf : σ → va_W} {P : σ → Prop} {ow2 : String} {L L2 : List (Nat × String)} {T : String → Prop} (hE : xEx X ow2 L2) (hL : ∀ q ∈ L, q ∈ L2) {mc ms : Nat} (hM : xTv l y w rm D cl tys wc (.ref b :: av) ow2 L wf P T mc ms) (hrc : rm.cells = mc) (hrs : rm.slots = ms) (hg : GoodIn Ts (wsV own idx q.1 y w)) (hw : w = Cond.code y bytes maxL (none) :: w') (hd : y.cls = q.1 ∧ y.cls ≠ "java/lang/invoke/MethodHandle" ∧ y.cls ≠ "java/lang/invoke/VarHandle" ∧ (parseMethodDescriptor y.desc).map (fun d => d.parameters.length) = some n) (hroom : rm.frames + 1 ≤ R.frames ∧ 8 + (maxL + 11) + rm.locals ≤ R.locals) (hn : av.length = n) (hst : st0 = av.reverse ++ .ref b :: st) (hq : cl[ci]? = some q) (hrec : wc[q0]? = some (b, .inr (ci, fs))) (hcat : (st.map fun v => v.category).sum ≤ 8)
    (isC isR : List Nat) {wr : va_W} (hC : isC.map (fun i => ws[i]?) = wc.map some) (hRr : isR.map (fun i => ws[i]?) = wr.map some) (hnC : va_nd isC = true) (hnd : va_nd isR = true) (hdis : ∀ i ∈ isR, i ∉ isC) (d : decode cc pc = .ok (.invokevirtual idx, 3)) (hf : cells + mc ≤ R.cells ∧ slots + ms ≤ R.slots)
    (kx : ∀ E, T E → xwx X (cells + mc) (slots + ms) pc lv st (wr ++ wc) E) (kk : ∀ (u : σ), P u → xw X (cells + mc) (slots + ms) (pc + 3) lv st (wr ++ wf u)) : xw X cells slots pc lv st0 ws := by
  obtain ⟨⟨p, l, e, R, s, m, args, below, meth, c⟩, ⟨D, cl, A, tys, nX, Q⟩⟩ := X
  obtain ⟨rfl, rfl, rfl, rfl, rfl, hx, hb, hml, rfl, hown, hts, hK, hA, hlk⟩ := K
  intro H locs ls hP hD hS hl
  have hE : xE ow2 L A s := ⟨hE.1, hE.2.1, fun q hq => hE.2.2 q (hL q hq)⟩
  have hPc := hP.sub (ws' := wc) isC (xfm hC)
  have hDc := hD.sub (ws' := wc) isC hnC hC
  have hFc := va_free (wc := wc) hD hS hA isC hC
  refine vx_callv (vx_runV (As := av) (rest := st) ⟨hx, hb, hml, hown, hts⟩ (hM H.size) (cwV n hts hg hw hrc hrs hd hroom) ⟨xPreT_blind, va_recv hK hPc hq hrec, fun U hU hW => ⟨rfl, by rw [hU], by rw [hU]; exact hPc, va_K.moved hW.alike hK, hDc.weaken (fun _ _ _ _ => trivial), xE_go hE hS hFc hU hW⟩⟩ rfl hn hl.1 hst (lv_room hcat) d hf) hS (fun q _ h => hFc q h) hFc (fun q _ h => hFc q h) (fun E ce q9 u t H1 locs ht hvm hw hB hz1 hk1 hS hce hcv hcc => ?_) (fun u t H1 locs ht hvm hw hB hz1 hk1 hS => ?_)
  · obtain ⟨hT, hP1, hK1, hD1⟩ := hB
    rw [ht] at hP1
    obtain ⟨hP, hD⟩ := va_join (wr := wr) (w1 := wc) hP hD isC isR hC hRr hnd hdis hk1 hFc hP1 hD1
    exact kx E hT H1 locs ls ce q9 hP hD hS hl hce hcv hcc
  · obtain ⟨hP1, hK1, hD1⟩ := hB
    rw [ht] at hP1
    obtain ⟨hP, hD⟩ := va_join (wr := wr) (w1 := wf u) hP hD isC isR hC hRr hnd hdis hk1 hFc hP1 hD1
    exact kk u hw H1 locs ls hP hD hS hl
theorem x_callVz {X : xC} {cc : ByteArray} {own : String} {Ts : List Cond} {nL cells slots pc : Nat} {lv : List (Nat × Value)} {st : List Value} {ws : va_W} {l : Launch} {R : Room} {D : va_G} {cl : List vw_C} {tys : List (ClassId × FieldType)} (K : xk X l R D cl tys cc own Ts nL) {y : MethodName} {w w' : List Cond} {rm : Room} {bytes : ByteArray} {maxL n idx : Nat} {b ci q0 : Nat} {fs : List Value} {q : vw_C} {av st0 : List Value} {wc : va_W} {σ : Type} {wf : σ → va_W} {P : Int32 → σ → Prop} (hM : xMz l y w rm D cl tys wc (.ref b :: av) wf P) (hrc : rm.cells = 0) (hrs : rm.slots = 0) (hg : GoodIn Ts (wsV own idx q.1 y w)) (hw : w = Cond.code y bytes maxL (some .boolean) :: w') (hd : y.cls = q.1 ∧ y.cls ≠ "java/lang/invoke/MethodHandle" ∧ y.cls ≠ "java/lang/invoke/VarHandle" ∧ (parseMethodDescriptor y.desc).map (fun d => d.parameters.length) = some n) (hroom : rm.frames + 1 ≤ R.frames ∧ 8 + (maxL + 11) + rm.locals ≤ R.locals) (hn : av.length = n) (hst : st0 = av.reverse ++ .ref b :: st) (hq : cl[ci]? = some q) (hrec : wc[q0]? = some (b, .inr (ci, fs))) (hcat : (st.map fun v => v.category).sum ≤ 8)
    (isC isR : List Nat) {wr : va_W} (hC : isC.map (fun i => ws[i]?) = wc.map some) (hRr : isR.map (fun i => ws[i]?) = wr.map some) (hnC : va_nd isC = true) (hnd : va_nd isR = true) (hdis : ∀ i ∈ isR, i ∉ isC) (d : decode cc pc = .ok (.invokevirtual idx, 3)) (hf : cells ≤ R.cells ∧ slots ≤ R.slots)
    (kk : ∀ (r : Int32) (u : σ), P r u → xw X cells slots (pc + 3) lv (.int r :: st) (wr ++ wf u)) : xw X cells slots pc lv st0 ws := by
  obtain ⟨⟨p, l, e, R, s, m, args, below, meth, c⟩, ⟨D, cl, A, tys, nX, Q⟩⟩ := X
  obtain ⟨rfl, rfl, rfl, rfl, rfl, hx, hb, hml, rfl, hown, hts, hK, hA, hlk⟩ := K
  intro H locs ls hP hD hS hl
  have hPc := hP.sub (ws' := wc) isC (xfm hC)
  have hDc := hD.sub (ws' := wc) isC hnC hC
  have hFc := va_free (wc := wc) hD hS hA isC hC
  refine va_calli (va_runV (As := av) (rest := st) ⟨hx, hb, hml, hown, hts⟩ (hM H.size) (cwV n hts hg hw hrc hrs hd hroom) ⟨xPre_blind, va_recv hK hPc hq hrec, fun U hU hW => ⟨rfl, by rw [hU], by rw [hU]; exact hPc, va_K.moved hW.alike hK, hDc.weaken (fun _ _ _ _ => trivial)⟩⟩ rfl hn hl.1 hst (lv_room hcat) d hf) hS (fun q _ h => hFc q h) hFc (fun r u t H1 locs ht hvm hw hB hz1 hk1 hS => ?_)
  obtain ⟨hP1, hK1, hD1⟩ := hB
  rw [ht] at hP1
  obtain ⟨hP, hD⟩ := va_join (wr := wr) (w1 := wf u) hP hD isC isR hC hRr hnd hdis hk1 hFc hP1 hD1
  exact kk r u hw H1 locs ls hP hD hS hl
theorem x_tcallVz {X : xC} {cc : ByteArray} {own : String} {Ts : List Cond} {nL cells slots pc : Nat} {lv : List (Nat × Value)} {st : List Value} {ws : va_W} {l : Launch} {R : Room} {D : va_G} {cl : List vw_C} {tys : List (ClassId × FieldType)} (K : xk X l R D cl tys cc own Ts nL) {y : MethodName} {w w' : List Cond} {rm : Room} {bytes : ByteArray} {maxL n idx : Nat} {b ci q0 : Nat} {fs : List Value} {q : vw_C} {av st0 : List Value} {wc : va_W} {σ : Type} {wf : σ → va_W} {P : Int32 → σ → Prop} {ow2 : String} {L L2 : List (Nat × String)} {T : String → Prop} (hE : xEx X ow2 L2) (hL : ∀ q ∈ L, q ∈ L2) {mc ms : Nat} (hM : xTz l y w rm D cl tys wc (.ref b :: av) ow2 L wf P T mc ms) (hrc : rm.cells = mc) (hrs : rm.slots = ms) (hg : GoodIn Ts (wsV own idx q.1 y w)) (hw : w = Cond.code y bytes maxL (some .boolean) :: w') (hd : y.cls = q.1 ∧ y.cls ≠ "java/lang/invoke/MethodHandle" ∧ y.cls ≠ "java/lang/invoke/VarHandle" ∧ (parseMethodDescriptor y.desc).map (fun d => d.parameters.length) = some n) (hroom : rm.frames + 1 ≤ R.frames ∧ 8 + (maxL + 11) + rm.locals ≤ R.locals) (hn : av.length = n) (hst : st0 = av.reverse ++ .ref b :: st) (hq : cl[ci]? = some q) (hrec : wc[q0]? = some (b, .inr (ci, fs))) (hcat : (st.map fun v => v.category).sum ≤ 8)
    (isC isR : List Nat) {wr : va_W} (hC : isC.map (fun i => ws[i]?) = wc.map some) (hRr : isR.map (fun i => ws[i]?) = wr.map some) (hnC : va_nd isC = true) (hnd : va_nd isR = true) (hdis : ∀ i ∈ isR, i ∉ isC) (d : decode cc pc = .ok (.invokevirtual idx, 3)) (hf : cells + mc ≤ R.cells ∧ slots + ms ≤ R.slots)
    (kx : ∀ E, T E → xwx X (cells + mc) (slots + ms) pc lv st (wr ++ wc) E) (kk : ∀ (r : Int32) (u : σ), P r u → xw X (cells + mc) (slots + ms) (pc + 3) lv (.int r :: st) (wr ++ wf u)) : xw X cells slots pc lv st0 ws := by
  obtain ⟨⟨p, l, e, R, s, m, args, below, meth, c⟩, ⟨D, cl, A, tys, nX, Q⟩⟩ := X
  obtain ⟨rfl, rfl, rfl, rfl, rfl, hx, hb, hml, rfl, hown, hts, hK, hA, hlk⟩ := K
  intro H locs ls hP hD hS hl
  have hE : xE ow2 L A s := ⟨hE.1, hE.2.1, fun q hq => hE.2.2 q (hL q hq)⟩
  have hPc := hP.sub (ws' := wc) isC (xfm hC)
  have hDc := hD.sub (ws' := wc) isC hnC hC
  have hFc := va_free (wc := wc) hD hS hA isC hC
  refine vx_calli (vx_runV (As := av) (rest := st) ⟨hx, hb, hml, hown, hts⟩ (hM H.size) (cwV n hts hg hw hrc hrs hd hroom) ⟨xPreT_blind, va_recv hK hPc hq hrec, fun U hU hW => ⟨rfl, by rw [hU], by rw [hU]; exact hPc, va_K.moved hW.alike hK, hDc.weaken (fun _ _ _ _ => trivial), xE_go hE hS hFc hU hW⟩⟩ rfl hn hl.1 hst (lv_room hcat) d hf) hS (fun q _ h => hFc q h) hFc (fun q _ h => hFc q h) (fun E ce q9 u t H1 locs ht hvm hw hB hz1 hk1 hS hce hcv hcc => ?_) (fun r u t H1 locs ht hvm hw hB hz1 hk1 hS => ?_)
  · obtain ⟨hT, hP1, hK1, hD1⟩ := hB
    rw [ht] at hP1
    obtain ⟨hP, hD⟩ := va_join (wr := wr) (w1 := wc) hP hD isC isR hC hRr hnd hdis hk1 hFc hP1 hD1
    exact kx E hT H1 locs ls ce q9 hP hD hS hl hce hcv hcc
  · obtain ⟨hP1, hK1, hD1⟩ := hB
    rw [ht] at hP1
    obtain ⟨hP, hD⟩ := va_join (wr := wr) (w1 := wf u) hP hD isC isR hC hRr hnd hdis hk1 hFc hP1 hD1
    exact kk r u hw H1 locs ls hP hD hS hl
end XCALL
end
section
/-! the worlds of the class and of the reference; calls of methods without a world -/
abbrev vwCl : List vw_C := [(RX0, TX0, 8), (RX1, TX1, 8)]
abbrev xtys (cI cJ cZ cA : ClassId) : List (ClassId × FieldType) := [(cI, .int), (cJ, .long), (cZ, .boolean), (cA, .array .int)]
def wX0 (cI cJ cZ cA : ClassId) (V : Nat → Nat) (land : Nat → Int64) (there : Int32) (near worn trial fits : Nat → Int32) (ways : Nat → Int64) : va_W := [(V 0, .inr (0, [.ref (V 1), .int there, .ref (V 2), .ref (V 3), .ref (V 4), .ref (V 5), .ref (V 6), .ref (V 7)])), (V 1, .inl (cJ, 10, .inr (.inl land))), (V 2, .inl (cI, 10, .inl near)), (V 3, .inl (cI, 10, .inl worn)), (V 4, .inl (cI, 10, .inl trial)), (V 5, .inl (cZ, 1024, .inl fits)), (V 6, .inl (cJ, 1024, .inr (.inl ways)))]
def wX1 (cI cJ cZ cA : ClassId) (V : Nat → Nat) (cell tint : Nat → Int32) (cells : Nat → Int64) (near : Nat → Int32) (there : Int32) (ways more : Nat → Int64) (thrown : Int32) : va_W := [(V 0, .inr (1, [.ref (V 1), .ref (V 2), .ref (V 3), .ref (V 4), .int there, .ref (V 5), .ref (V 6), .int thrown])), (V 1, .inl (cI, 36, .inl cell)), (V 2, .inl (cI, 10, .inl tint)), (V 3, .inl (cJ, 10, .inr (.inl cells))), (V 4, .inl (cI, 10, .inl near)), (V 5, .inl (cJ, 1024, .inr (.inl ways))), (V 6, .inl (cJ, 1024, .inr (.inl more)))]
theorem x_ws {X : xC} {cells slots pc : Nat} {lv : List (Nat × Value)} {st : List Value} {ws ws' : va_W} (h : ws = ws') (kk : xw X cells slots pc lv st ws') : xw X cells slots pc lv st ws := h ▸ kk
theorem x_emp {H : Heap} {sz q : Nat} (h : q < sz) : ¬ va_A [] sz q := by
  rintro (⟨k, e, h1⟩ | h1)
  · simp at h1
  · omega
theorem x_empP {D : va_G} {cl : List vw_C} {H : Heap} : va_P D cl [] H := fun k q h => by simp at h
theorem x_empD {A : Nat → Prop} : va_D A [] := ⟨fun i j p q h => by simp at h, fun k q h => by simp at h⟩
section XPC
theorem x_pcallSi {X : xC} {cc : ByteArray} {own : String} {Ts : List Cond} {nL cells slots pc : Nat} {lv : List (Nat × Value)} {st : List Value} {ws : va_W} {l : Launch} {R : Room} {D : va_G} {cl : List vw_C} {tys : List (ClassId × FieldType)} (K : xk X l R D cl tys cc own Ts nL) {y : MethodName} {w w' : List Cond} {rm : Room} {bytes : ByteArray} {maxL n idx : Nat} {av st0 : List Value} {σ : Type} {P : Int32 → σ → Prop} (hM : xMi l y w rm D cl tys [] av (fun _ : σ => []) P) (hrc : rm.cells = 0) (hrs : rm.slots = 0) (hg : GoodIn Ts (va_wsS own idx y w)) (hw : w = Cond.code y bytes maxL (some .int) :: w') (hd : y.cls ≠ "java/lang/invoke/MethodHandle" ∧ y.cls ≠ "java/lang/invoke/VarHandle" ∧ (parseMethodDescriptor y.desc).map (fun d => d.parameters.length) = some n) (hroom : rm.frames + 1 ≤ R.frames ∧ 8 + (maxL + 11) + rm.locals ≤ R.locals) (hn : av.length = n) (hst : st0 = av.reverse ++ st) (hcat : (st.map fun v => v.category).sum ≤ 8) (d : decode cc pc = .ok (.invokestatic idx, 3)) (hf : cells ≤ R.cells ∧ slots ≤ R.slots)
    (kk : ∀ (r : Int32) (u : σ), P r u → xw X cells slots (pc + 3) lv (.int r :: st) ws) : xw X cells slots pc lv st0 ws := by
  obtain ⟨⟨p, l, e, R, s, m, args, below, meth, c⟩, ⟨D, cl, A, tys, nX, Q⟩⟩ := X
  obtain ⟨rfl, rfl, rfl, rfl, rfl, hx, hb, hml, rfl, hown, hts, hK, hA, hlk⟩ := K
  intro H locs ls hP hD hS hl
  have hFc : ∀ q, va_A [] H.size q → A q := fun q h => hA q (by
    rcases h with ⟨k, e, h⟩ | h
    · simp at h
    · exact Nat.le_trans hS.1 h)
  refine va_calli (va_runS (As := av) (rest := st) ⟨hx, hb, hml, hown, hts⟩ (hM H.size) (va_cwS n hts hg hw hrc hrs hd hroom) ⟨xPre_blind, fun U hU hW => ⟨rfl, by rw [hU], x_empP, va_K.moved hW.alike hK, x_empD⟩⟩ rfl hn hl.1 hst (lv_room hcat) d hf) hS (fun q _ h => hFc q h) hFc (fun r u t H1 locs ht hvm hw hB hz1 hk1 hS => ?_)
  have hP2 : va_P D cl ws H1 := hP.kept (fun k q hq => hk1 q.1 (vx_lt hP hq) (x_emp (H := H) (vx_lt hP hq)))
  exact kk r u hw H1 locs ls hP2 hD hS hl
theorem x_ptcallSi {X : xC} {cc : ByteArray} {own : String} {Ts : List Cond} {nL cells slots pc : Nat} {lv : List (Nat × Value)} {st : List Value} {ws : va_W} {l : Launch} {R : Room} {D : va_G} {cl : List vw_C} {tys : List (ClassId × FieldType)} (K : xk X l R D cl tys cc own Ts nL) {y : MethodName} {w w' : List Cond} {rm : Room} {bytes : ByteArray} {maxL n idx : Nat} {av st0 : List Value} {σ : Type} {P : Int32 → σ → Prop} {ow2 : String} {L L2 : List (Nat × String)} {T : String → Prop} (hE : xEx X ow2 L2) (hL : ∀ q ∈ L, q ∈ L2) {mc ms : Nat} (hM : xTi l y w rm D cl tys [] av ow2 L (fun _ : σ => []) P T mc ms) (hrc : rm.cells = mc) (hrs : rm.slots = ms) (hg : GoodIn Ts (va_wsS own idx y w)) (hw : w = Cond.code y bytes maxL (some .int) :: w') (hd : y.cls ≠ "java/lang/invoke/MethodHandle" ∧ y.cls ≠ "java/lang/invoke/VarHandle" ∧ (parseMethodDescriptor y.desc).map (fun d => d.parameters.length) = some n) (hroom : rm.frames + 1 ≤ R.frames ∧ 8 + (maxL + 11) + rm.locals ≤ R.locals) (hn : av.length = n) (hst : st0 = av.reverse ++ st) (hcat : (st.map fun v => v.category).sum ≤ 8) (d : decode cc pc = .ok (.invokestatic idx, 3)) (hf : cells + mc ≤ R.cells ∧ slots + ms ≤ R.slots)
    (kx : ∀ E, T E → xwx X (cells + mc) (slots + ms) pc lv st ws E) (kk : ∀ (r : Int32) (u : σ), P r u → xw X (cells + mc) (slots + ms) (pc + 3) lv (.int r :: st) ws) : xw X cells slots pc lv st0 ws := by
  obtain ⟨⟨p, l, e, R, s, m, args, below, meth, c⟩, ⟨D, cl, A, tys, nX, Q⟩⟩ := X
  obtain ⟨rfl, rfl, rfl, rfl, rfl, hx, hb, hml, rfl, hown, hts, hK, hA, hlk⟩ := K
  intro H locs ls hP hD hS hl
  have hE : xE ow2 L A s := ⟨hE.1, hE.2.1, fun q hq => hE.2.2 q (hL q hq)⟩
  have hFc : ∀ q, va_A [] H.size q → A q := fun q h => hA q (by
    rcases h with ⟨k, e, h⟩ | h
    · simp at h
    · exact Nat.le_trans hS.1 h)
  refine vx_calli (vx_runS (As := av) (rest := st) ⟨hx, hb, hml, hown, hts⟩ (hM H.size) (va_cwS n hts hg hw hrc hrs hd hroom) ⟨xPreT_blind, fun U hU hW => ⟨rfl, by rw [hU], x_empP, va_K.moved hW.alike hK, x_empD, xE_go hE hS hFc hU hW⟩⟩ rfl hn hl.1 hst (lv_room hcat) d hf) hS (fun q _ h => hFc q h) hFc (fun q _ h => hFc q h) (fun E ce q9 u t H1 locs ht hvm hw hB hz1 hk1 hS hce hcv hcc => ?_) (fun r u t H1 locs ht hvm hw hB hz1 hk1 hS => ?_)
  · have hP2 : va_P D cl ws H1 := hP.kept (fun k q hq => hk1 q.1 (vx_lt hP hq) (x_emp (H := H) (vx_lt hP hq)))
    exact kx E hB.1 H1 locs ls ce q9 hP2 hD hS hl hce hcv hcc
  · have hP2 : va_P D cl ws H1 := hP.kept (fun k q hq => hk1 q.1 (vx_lt hP hq) (x_emp (H := H) (vx_lt hP hq)))
    exact kk r u hw H1 locs ls hP2 hD hS hl
theorem x_pcallSl {X : xC} {cc : ByteArray} {own : String} {Ts : List Cond} {nL cells slots pc : Nat} {lv : List (Nat × Value)} {st : List Value} {ws : va_W} {l : Launch} {R : Room} {D : va_G} {cl : List vw_C} {tys : List (ClassId × FieldType)} (K : xk X l R D cl tys cc own Ts nL) {y : MethodName} {w w' : List Cond} {rm : Room} {bytes : ByteArray} {maxL n idx : Nat} {av st0 : List Value} {σ : Type} {P : Int64 → σ → Prop} (hM : xMl l y w rm D cl tys [] av (fun _ : σ => []) P) (hrc : rm.cells = 0) (hrs : rm.slots = 0) (hg : GoodIn Ts (va_wsS own idx y w)) (hw : w = Cond.code y bytes maxL (some .long) :: w') (hd : y.cls ≠ "java/lang/invoke/MethodHandle" ∧ y.cls ≠ "java/lang/invoke/VarHandle" ∧ (parseMethodDescriptor y.desc).map (fun d => d.parameters.length) = some n) (hroom : rm.frames + 1 ≤ R.frames ∧ 8 + (maxL + 11) + rm.locals ≤ R.locals) (hn : av.length = n) (hst : st0 = av.reverse ++ st) (hcat : (st.map fun v => v.category).sum ≤ 8) (d : decode cc pc = .ok (.invokestatic idx, 3)) (hf : cells ≤ R.cells ∧ slots ≤ R.slots)
    (kk : ∀ (r : Int64) (u : σ), P r u → xw X cells slots (pc + 3) lv (.long r :: st) ws) : xw X cells slots pc lv st0 ws := by
  obtain ⟨⟨p, l, e, R, s, m, args, below, meth, c⟩, ⟨D, cl, A, tys, nX, Q⟩⟩ := X
  obtain ⟨rfl, rfl, rfl, rfl, rfl, hx, hb, hml, rfl, hown, hts, hK, hA, hlk⟩ := K
  intro H locs ls hP hD hS hl
  have hFc : ∀ q, va_A [] H.size q → A q := fun q h => hA q (by
    rcases h with ⟨k, e, h⟩ | h
    · simp at h
    · exact Nat.le_trans hS.1 h)
  refine va_calll (va_runS (As := av) (rest := st) ⟨hx, hb, hml, hown, hts⟩ (hM H.size) (va_cwS n hts hg hw hrc hrs hd hroom) ⟨xPre_blind, fun U hU hW => ⟨rfl, by rw [hU], x_empP, va_K.moved hW.alike hK, x_empD⟩⟩ rfl hn hl.1 hst (lv_room hcat) d hf) hS (fun q _ h => hFc q h) hFc (fun r u t H1 locs ht hvm hw hB hz1 hk1 hS => ?_)
  have hP2 : va_P D cl ws H1 := hP.kept (fun k q hq => hk1 q.1 (vx_lt hP hq) (x_emp (H := H) (vx_lt hP hq)))
  exact kk r u hw H1 locs ls hP2 hD hS hl
theorem x_ptcallSl {X : xC} {cc : ByteArray} {own : String} {Ts : List Cond} {nL cells slots pc : Nat} {lv : List (Nat × Value)} {st : List Value} {ws : va_W} {l : Launch} {R : Room} {D : va_G} {cl : List vw_C} {tys : List (ClassId × FieldType)} (K : xk X l R D cl tys cc own Ts nL) {y : MethodName} {w w' : List Cond} {rm : Room} {bytes : ByteArray} {maxL n idx : Nat} {av st0 : List Value} {σ : Type} {P : Int64 → σ → Prop} {ow2 : String} {L L2 : List (Nat × String)} {T : String → Prop} (hE : xEx X ow2 L2) (hL : ∀ q ∈ L, q ∈ L2) {mc ms : Nat} (hM : xTl l y w rm D cl tys [] av ow2 L (fun _ : σ => []) P T mc ms) (hrc : rm.cells = mc) (hrs : rm.slots = ms) (hg : GoodIn Ts (va_wsS own idx y w)) (hw : w = Cond.code y bytes maxL (some .long) :: w') (hd : y.cls ≠ "java/lang/invoke/MethodHandle" ∧ y.cls ≠ "java/lang/invoke/VarHandle" ∧ (parseMethodDescriptor y.desc).map (fun d => d.parameters.length) = some n) (hroom : rm.frames + 1 ≤ R.frames ∧ 8 + (maxL + 11) + rm.locals ≤ R.locals) (hn : av.length = n) (hst : st0 = av.reverse ++ st) (hcat : (st.map fun v => v.category).sum ≤ 8) (d : decode cc pc = .ok (.invokestatic idx, 3)) (hf : cells + mc ≤ R.cells ∧ slots + ms ≤ R.slots)
    (kx : ∀ E, T E → xwx X (cells + mc) (slots + ms) pc lv st ws E) (kk : ∀ (r : Int64) (u : σ), P r u → xw X (cells + mc) (slots + ms) (pc + 3) lv (.long r :: st) ws) : xw X cells slots pc lv st0 ws := by
  obtain ⟨⟨p, l, e, R, s, m, args, below, meth, c⟩, ⟨D, cl, A, tys, nX, Q⟩⟩ := X
  obtain ⟨rfl, rfl, rfl, rfl, rfl, hx, hb, hml, rfl, hown, hts, hK, hA, hlk⟩ := K
  intro H locs ls hP hD hS hl
  have hE : xE ow2 L A s := ⟨hE.1, hE.2.1, fun q hq => hE.2.2 q (hL q hq)⟩
  have hFc : ∀ q, va_A [] H.size q → A q := fun q h => hA q (by
    rcases h with ⟨k, e, h⟩ | h
    · simp at h
    · exact Nat.le_trans hS.1 h)
  refine vx_calll (vx_runS (As := av) (rest := st) ⟨hx, hb, hml, hown, hts⟩ (hM H.size) (va_cwS n hts hg hw hrc hrs hd hroom) ⟨xPreT_blind, fun U hU hW => ⟨rfl, by rw [hU], x_empP, va_K.moved hW.alike hK, x_empD, xE_go hE hS hFc hU hW⟩⟩ rfl hn hl.1 hst (lv_room hcat) d hf) hS (fun q _ h => hFc q h) hFc (fun q _ h => hFc q h) (fun E ce q9 u t H1 locs ht hvm hw hB hz1 hk1 hS hce hcv hcc => ?_) (fun r u t H1 locs ht hvm hw hB hz1 hk1 hS => ?_)
  · have hP2 : va_P D cl ws H1 := hP.kept (fun k q hq => hk1 q.1 (vx_lt hP hq) (x_emp (H := H) (vx_lt hP hq)))
    exact kx E hB.1 H1 locs ls ce q9 hP2 hD hS hl hce hcv hcc
  · have hP2 : va_P D cl ws H1 := hP.kept (fun k q hq => hk1 q.1 (vx_lt hP hq) (x_emp (H := H) (vx_lt hP hq)))
    exact kk r u hw H1 locs ls hP2 hD hS hl
theorem x_pcallSv {X : xC} {cc : ByteArray} {own : String} {Ts : List Cond} {nL cells slots pc : Nat} {lv : List (Nat × Value)} {st : List Value} {ws : va_W} {l : Launch} {R : Room} {D : va_G} {cl : List vw_C} {tys : List (ClassId × FieldType)} (K : xk X l R D cl tys cc own Ts nL) {y : MethodName} {w w' : List Cond} {rm : Room} {bytes : ByteArray} {maxL n idx : Nat} {av st0 : List Value} {σ : Type} {P : σ → Prop} (hM : xMv l y w rm D cl tys [] av (fun _ : σ => []) P) (hrc : rm.cells = 0) (hrs : rm.slots = 0) (hg : GoodIn Ts (va_wsS own idx y w)) (hw : w = Cond.code y bytes maxL (none) :: w') (hd : y.cls ≠ "java/lang/invoke/MethodHandle" ∧ y.cls ≠ "java/lang/invoke/VarHandle" ∧ (parseMethodDescriptor y.desc).map (fun d => d.parameters.length) = some n) (hroom : rm.frames + 1 ≤ R.frames ∧ 8 + (maxL + 11) + rm.locals ≤ R.locals) (hn : av.length = n) (hst : st0 = av.reverse ++ st) (hcat : (st.map fun v => v.category).sum ≤ 8) (d : decode cc pc = .ok (.invokestatic idx, 3)) (hf : cells ≤ R.cells ∧ slots ≤ R.slots)
    (kk : ∀ (u : σ), P u → xw X cells slots (pc + 3) lv st ws) : xw X cells slots pc lv st0 ws := by
  obtain ⟨⟨p, l, e, R, s, m, args, below, meth, c⟩, ⟨D, cl, A, tys, nX, Q⟩⟩ := X
  obtain ⟨rfl, rfl, rfl, rfl, rfl, hx, hb, hml, rfl, hown, hts, hK, hA, hlk⟩ := K
  intro H locs ls hP hD hS hl
  have hFc : ∀ q, va_A [] H.size q → A q := fun q h => hA q (by
    rcases h with ⟨k, e, h⟩ | h
    · simp at h
    · exact Nat.le_trans hS.1 h)
  refine va_callv (va_runS (As := av) (rest := st) ⟨hx, hb, hml, hown, hts⟩ (hM H.size) (va_cwS n hts hg hw hrc hrs hd hroom) ⟨xPre_blind, fun U hU hW => ⟨rfl, by rw [hU], x_empP, va_K.moved hW.alike hK, x_empD⟩⟩ rfl hn hl.1 hst (lv_room hcat) d hf) hS (fun q _ h => hFc q h) hFc (fun u t H1 locs ht hvm hw hB hz1 hk1 hS => ?_)
  have hP2 : va_P D cl ws H1 := hP.kept (fun k q hq => hk1 q.1 (vx_lt hP hq) (x_emp (H := H) (vx_lt hP hq)))
  exact kk u hw H1 locs ls hP2 hD hS hl
theorem x_ptcallSv {X : xC} {cc : ByteArray} {own : String} {Ts : List Cond} {nL cells slots pc : Nat} {lv : List (Nat × Value)} {st : List Value} {ws : va_W} {l : Launch} {R : Room} {D : va_G} {cl : List vw_C} {tys : List (ClassId × FieldType)} (K : xk X l R D cl tys cc own Ts nL) {y : MethodName} {w w' : List Cond} {rm : Room} {bytes : ByteArray} {maxL n idx : Nat} {av st0 : List Value} {σ : Type} {P : σ → Prop} {ow2 : String} {L L2 : List (Nat × String)} {T : String → Prop} (hE : xEx X ow2 L2) (hL : ∀ q ∈ L, q ∈ L2) {mc ms : Nat} (hM : xTv l y w rm D cl tys [] av ow2 L (fun _ : σ => []) P T mc ms) (hrc : rm.cells = mc) (hrs : rm.slots = ms) (hg : GoodIn Ts (va_wsS own idx y w)) (hw : w = Cond.code y bytes maxL (none) :: w') (hd : y.cls ≠ "java/lang/invoke/MethodHandle" ∧ y.cls ≠ "java/lang/invoke/VarHandle" ∧ (parseMethodDescriptor y.desc).map (fun d => d.parameters.length) = some n) (hroom : rm.frames + 1 ≤ R.frames ∧ 8 + (maxL + 11) + rm.locals ≤ R.locals) (hn : av.length = n) (hst : st0 = av.reverse ++ st) (hcat : (st.map fun v => v.category).sum ≤ 8) (d : decode cc pc = .ok (.invokestatic idx, 3)) (hf : cells + mc ≤ R.cells ∧ slots + ms ≤ R.slots)
    (kx : ∀ E, T E → xwx X (cells + mc) (slots + ms) pc lv st ws E) (kk : ∀ (u : σ), P u → xw X (cells + mc) (slots + ms) (pc + 3) lv st ws) : xw X cells slots pc lv st0 ws := by
  obtain ⟨⟨p, l, e, R, s, m, args, below, meth, c⟩, ⟨D, cl, A, tys, nX, Q⟩⟩ := X
  obtain ⟨rfl, rfl, rfl, rfl, rfl, hx, hb, hml, rfl, hown, hts, hK, hA, hlk⟩ := K
  intro H locs ls hP hD hS hl
  have hE : xE ow2 L A s := ⟨hE.1, hE.2.1, fun q hq => hE.2.2 q (hL q hq)⟩
  have hFc : ∀ q, va_A [] H.size q → A q := fun q h => hA q (by
    rcases h with ⟨k, e, h⟩ | h
    · simp at h
    · exact Nat.le_trans hS.1 h)
  refine vx_callv (vx_runS (As := av) (rest := st) ⟨hx, hb, hml, hown, hts⟩ (hM H.size) (va_cwS n hts hg hw hrc hrs hd hroom) ⟨xPreT_blind, fun U hU hW => ⟨rfl, by rw [hU], x_empP, va_K.moved hW.alike hK, x_empD, xE_go hE hS hFc hU hW⟩⟩ rfl hn hl.1 hst (lv_room hcat) d hf) hS (fun q _ h => hFc q h) hFc (fun q _ h => hFc q h) (fun E ce q9 u t H1 locs ht hvm hw hB hz1 hk1 hS hce hcv hcc => ?_) (fun u t H1 locs ht hvm hw hB hz1 hk1 hS => ?_)
  · have hP2 : va_P D cl ws H1 := hP.kept (fun k q hq => hk1 q.1 (vx_lt hP hq) (x_emp (H := H) (vx_lt hP hq)))
    exact kx E hB.1 H1 locs ls ce q9 hP2 hD hS hl hce hcv hcc
  · have hP2 : va_P D cl ws H1 := hP.kept (fun k q hq => hk1 q.1 (vx_lt hP hq) (x_emp (H := H) (vx_lt hP hq)))
    exact kk u hw H1 locs ls hP2 hD hS hl
theorem x_pcallSz {X : xC} {cc : ByteArray} {own : String} {Ts : List Cond} {nL cells slots pc : Nat} {lv : List (Nat × Value)} {st : List Value} {ws : va_W} {l : Launch} {R : Room} {D : va_G} {cl : List vw_C} {tys : List (ClassId × FieldType)} (K : xk X l R D cl tys cc own Ts nL) {y : MethodName} {w w' : List Cond} {rm : Room} {bytes : ByteArray} {maxL n idx : Nat} {av st0 : List Value} {σ : Type} {P : Int32 → σ → Prop} (hM : xMz l y w rm D cl tys [] av (fun _ : σ => []) P) (hrc : rm.cells = 0) (hrs : rm.slots = 0) (hg : GoodIn Ts (va_wsS own idx y w)) (hw : w = Cond.code y bytes maxL (some .boolean) :: w') (hd : y.cls ≠ "java/lang/invoke/MethodHandle" ∧ y.cls ≠ "java/lang/invoke/VarHandle" ∧ (parseMethodDescriptor y.desc).map (fun d => d.parameters.length) = some n) (hroom : rm.frames + 1 ≤ R.frames ∧ 8 + (maxL + 11) + rm.locals ≤ R.locals) (hn : av.length = n) (hst : st0 = av.reverse ++ st) (hcat : (st.map fun v => v.category).sum ≤ 8) (d : decode cc pc = .ok (.invokestatic idx, 3)) (hf : cells ≤ R.cells ∧ slots ≤ R.slots)
    (kk : ∀ (r : Int32) (u : σ), P r u → xw X cells slots (pc + 3) lv (.int r :: st) ws) : xw X cells slots pc lv st0 ws := by
  obtain ⟨⟨p, l, e, R, s, m, args, below, meth, c⟩, ⟨D, cl, A, tys, nX, Q⟩⟩ := X
  obtain ⟨rfl, rfl, rfl, rfl, rfl, hx, hb, hml, rfl, hown, hts, hK, hA, hlk⟩ := K
  intro H locs ls hP hD hS hl
  have hFc : ∀ q, va_A [] H.size q → A q := fun q h => hA q (by
    rcases h with ⟨k, e, h⟩ | h
    · simp at h
    · exact Nat.le_trans hS.1 h)
  refine va_calli (va_runS (As := av) (rest := st) ⟨hx, hb, hml, hown, hts⟩ (hM H.size) (va_cwS n hts hg hw hrc hrs hd hroom) ⟨xPre_blind, fun U hU hW => ⟨rfl, by rw [hU], x_empP, va_K.moved hW.alike hK, x_empD⟩⟩ rfl hn hl.1 hst (lv_room hcat) d hf) hS (fun q _ h => hFc q h) hFc (fun r u t H1 locs ht hvm hw hB hz1 hk1 hS => ?_)
  have hP2 : va_P D cl ws H1 := hP.kept (fun k q hq => hk1 q.1 (vx_lt hP hq) (x_emp (H := H) (vx_lt hP hq)))
  exact kk r u hw H1 locs ls hP2 hD hS hl
theorem x_ptcallSz {X : xC} {cc : ByteArray} {own : String} {Ts : List Cond} {nL cells slots pc : Nat} {lv : List (Nat × Value)} {st : List Value} {ws : va_W} {l : Launch} {R : Room} {D : va_G} {cl : List vw_C} {tys : List (ClassId × FieldType)} (K : xk X l R D cl tys cc own Ts nL) {y : MethodName} {w w' : List Cond} {rm : Room} {bytes : ByteArray} {maxL n idx : Nat} {av st0 : List Value} {σ : Type} {P : Int32 → σ → Prop} {ow2 : String} {L L2 : List (Nat × String)} {T : String → Prop} (hE : xEx X ow2 L2) (hL : ∀ q ∈ L, q ∈ L2) {mc ms : Nat} (hM : xTz l y w rm D cl tys [] av ow2 L (fun _ : σ => []) P T mc ms) (hrc : rm.cells = mc) (hrs : rm.slots = ms) (hg : GoodIn Ts (va_wsS own idx y w)) (hw : w = Cond.code y bytes maxL (some .boolean) :: w') (hd : y.cls ≠ "java/lang/invoke/MethodHandle" ∧ y.cls ≠ "java/lang/invoke/VarHandle" ∧ (parseMethodDescriptor y.desc).map (fun d => d.parameters.length) = some n) (hroom : rm.frames + 1 ≤ R.frames ∧ 8 + (maxL + 11) + rm.locals ≤ R.locals) (hn : av.length = n) (hst : st0 = av.reverse ++ st) (hcat : (st.map fun v => v.category).sum ≤ 8) (d : decode cc pc = .ok (.invokestatic idx, 3)) (hf : cells + mc ≤ R.cells ∧ slots + ms ≤ R.slots)
    (kx : ∀ E, T E → xwx X (cells + mc) (slots + ms) pc lv st ws E) (kk : ∀ (r : Int32) (u : σ), P r u → xw X (cells + mc) (slots + ms) (pc + 3) lv (.int r :: st) ws) : xw X cells slots pc lv st0 ws := by
  obtain ⟨⟨p, l, e, R, s, m, args, below, meth, c⟩, ⟨D, cl, A, tys, nX, Q⟩⟩ := X
  obtain ⟨rfl, rfl, rfl, rfl, rfl, hx, hb, hml, rfl, hown, hts, hK, hA, hlk⟩ := K
  intro H locs ls hP hD hS hl
  have hE : xE ow2 L A s := ⟨hE.1, hE.2.1, fun q hq => hE.2.2 q (hL q hq)⟩
  have hFc : ∀ q, va_A [] H.size q → A q := fun q h => hA q (by
    rcases h with ⟨k, e, h⟩ | h
    · simp at h
    · exact Nat.le_trans hS.1 h)
  refine vx_calli (vx_runS (As := av) (rest := st) ⟨hx, hb, hml, hown, hts⟩ (hM H.size) (va_cwS n hts hg hw hrc hrs hd hroom) ⟨xPreT_blind, fun U hU hW => ⟨rfl, by rw [hU], x_empP, va_K.moved hW.alike hK, x_empD, xE_go hE hS hFc hU hW⟩⟩ rfl hn hl.1 hst (lv_room hcat) d hf) hS (fun q _ h => hFc q h) hFc (fun q _ h => hFc q h) (fun E ce q9 u t H1 locs ht hvm hw hB hz1 hk1 hS hce hcv hcc => ?_) (fun r u t H1 locs ht hvm hw hB hz1 hk1 hS => ?_)
  · have hP2 : va_P D cl ws H1 := hP.kept (fun k q hq => hk1 q.1 (vx_lt hP hq) (x_emp (H := H) (vx_lt hP hq)))
    exact kx E hB.1 H1 locs ls ce q9 hP2 hD hS hl hce hcv hcc
  · have hP2 : va_P D cl ws H1 := hP.kept (fun k q hq => hk1 q.1 (vx_lt hP hq) (x_emp (H := H) (vx_lt hP hq)))
    exact kk r u hw H1 locs ls hP2 hD hS hl
end XPC
end
section
abbrev rm_J6_bitCount_0f7a4 : Room := { frames := 8, cells := 0, slots := 0, locals := 120 }
theorem kJ6_bitCount_0f7a4_0 : Cond.constant RJ6 265 (1431655765) ∈ wsJ6_bitCount_0f7a4 := by decide +kernel
theorem kJ6_bitCount_0f7a4_1 : Cond.constant RJ6 266 (858993459) ∈ wsJ6_bitCount_0f7a4 := by decide +kernel
theorem kJ6_bitCount_0f7a4_2 : Cond.constant RJ6 267 (252645135) ∈ wsJ6_bitCount_0f7a4 := by decide +kernel
def q_J6_bitCount_0f7a4 (p0 : Int32) (P : Int32 → Prop) : Prop := xl (p0 - ((xushr p0 1) &&& 1431655765)) (fun y1 => xl ((y1 &&& 858993459) + ((xushr y1 2) &&& 858993459)) (fun y2 => xl ((y2 + (xushr y2 4)) &&& 252645135) (fun y3 => xl (y3 + (xushr y3 8)) (fun y4 => xl (y4 + (xushr y4 16)) (fun y5 => P (y5 &&& 63))))))
set_option maxHeartbeats 4000000 in
set_option maxRecDepth 100000 in
theorem c_J6_bitCount_0f7a4 (l : Launch) (D : va_G) (cI cJ cZ cA : ClassId) (p0 : Int32) (P : Int32 → Prop) (h : q_J6_bitCount_0f7a4 p0 P) : xMi l yJ6_bitCount_0f7a4 wsJ6_bitCount_0f7a4 rm_J6_bitCount_0f7a4 D vwCl (xtys cI cJ cZ cA) [] [.int p0] (σ := Unit) (fun _ => []) (fun r _ => P r) := by
  refine xMi_of (cc := cJ6_bitCount_0f7a4) (maxL := 1) (by decide) rfl (Nat.le_of_ble_eq_true rfl) ?_
  intro X K hE
  have K : xk X l rm_J6_bitCount_0f7a4 D vwCl (xtys cI cJ cZ cA) cJ6_bitCount_0f7a4 RJ6 wsJ6_bitCount_0f7a4 1 := K
  unfold q_J6_bitCount_0f7a4 at h
  refine x_iload_n (pc := 0) K dJ6_bitCount_0f7a4_0 0 rfl rfl ?_
  refine x_iload_n (pc := 1) K dJ6_bitCount_0f7a4_1 0 rfl rfl ?_
  refine x_iconst (v := 1) (pc := 2) K dJ6_bitCount_0f7a4_2 (by decide) ?_
  refine x_iushr (pc := 3) K dJ6_bitCount_0f7a4_3 ?_
  refine x_ldcw (pc := 4) (v := 1431655765) K kJ6_bitCount_0f7a4_0 dJ6_bitCount_0f7a4_4 ?_
  refine x_iand (pc := 7) K dJ6_bitCount_0f7a4_7 ?_
  refine x_isub (pc := 8) K dJ6_bitCount_0f7a4_8 ?_
  obtain ⟨y1, ey1, h⟩ := xl_o h
  refine x_topi ey1 ?_
  clear ey1
  refine x_istore_n (lv' := [(0, .int y1)]) (pc := 9) K dJ6_bitCount_0f7a4_9 rfl (by decide) rfl ?_
  refine x_iload_n (pc := 10) K dJ6_bitCount_0f7a4_10 0 rfl rfl ?_
  refine x_ldcw (pc := 11) (v := 858993459) K kJ6_bitCount_0f7a4_1 dJ6_bitCount_0f7a4_11 ?_
  refine x_iand (pc := 14) K dJ6_bitCount_0f7a4_14 ?_
  refine x_iload_n (pc := 15) K dJ6_bitCount_0f7a4_15 0 rfl rfl ?_
  refine x_iconst (v := 2) (pc := 16) K dJ6_bitCount_0f7a4_16 (by decide) ?_
  refine x_iushr (pc := 17) K dJ6_bitCount_0f7a4_17 ?_
  refine x_ldcw (pc := 18) (v := 858993459) K kJ6_bitCount_0f7a4_1 dJ6_bitCount_0f7a4_18 ?_
  refine x_iand (pc := 21) K dJ6_bitCount_0f7a4_21 ?_
  refine x_iadd (pc := 22) K dJ6_bitCount_0f7a4_22 ?_
  obtain ⟨y2, ey2, h⟩ := xl_o h
  refine x_topi ey2 ?_
  clear ey2
  refine x_istore_n (lv' := [(0, .int y2)]) (pc := 23) K dJ6_bitCount_0f7a4_23 rfl (by decide) rfl ?_
  refine x_iload_n (pc := 24) K dJ6_bitCount_0f7a4_24 0 rfl rfl ?_
  refine x_iload_n (pc := 25) K dJ6_bitCount_0f7a4_25 0 rfl rfl ?_
  refine x_iconst (v := 4) (pc := 26) K dJ6_bitCount_0f7a4_26 (by decide) ?_
  refine x_iushr (pc := 27) K dJ6_bitCount_0f7a4_27 ?_
  refine x_iadd (pc := 28) K dJ6_bitCount_0f7a4_28 ?_
  refine x_ldcw (pc := 29) (v := 252645135) K kJ6_bitCount_0f7a4_2 dJ6_bitCount_0f7a4_29 ?_
  refine x_iand (pc := 32) K dJ6_bitCount_0f7a4_32 ?_
  obtain ⟨y3, ey3, h⟩ := xl_o h
  refine x_topi ey3 ?_
  clear ey3
  refine x_istore_n (lv' := [(0, .int y3)]) (pc := 33) K dJ6_bitCount_0f7a4_33 rfl (by decide) rfl ?_
  refine x_iload_n (pc := 34) K dJ6_bitCount_0f7a4_34 0 rfl rfl ?_
  refine x_iload_n (pc := 35) K dJ6_bitCount_0f7a4_35 0 rfl rfl ?_
  refine x_bipush (v := 8) (pc := 36) K dJ6_bitCount_0f7a4_36 (by decide) ?_
  refine x_iushr (pc := 38) K dJ6_bitCount_0f7a4_38 ?_
  refine x_iadd (pc := 39) K dJ6_bitCount_0f7a4_39 ?_
  obtain ⟨y4, ey4, h⟩ := xl_o h
  refine x_topi ey4 ?_
  clear ey4
  refine x_istore_n (lv' := [(0, .int y4)]) (pc := 40) K dJ6_bitCount_0f7a4_40 rfl (by decide) rfl ?_
  refine x_iload_n (pc := 41) K dJ6_bitCount_0f7a4_41 0 rfl rfl ?_
  refine x_iload_n (pc := 42) K dJ6_bitCount_0f7a4_42 0 rfl rfl ?_
  refine x_bipush (v := 16) (pc := 43) K dJ6_bitCount_0f7a4_43 (by decide) ?_
  refine x_iushr (pc := 45) K dJ6_bitCount_0f7a4_45 ?_
  refine x_iadd (pc := 46) K dJ6_bitCount_0f7a4_46 ?_
  obtain ⟨y5, ey5, h⟩ := xl_o h
  refine x_topi ey5 ?_
  clear ey5
  refine x_istore_n (lv' := [(0, .int y5)]) (pc := 47) K dJ6_bitCount_0f7a4_47 rfl (by decide) rfl ?_
  refine x_iload_n (pc := 48) K dJ6_bitCount_0f7a4_48 0 rfl rfl ?_
  refine x_bipush (v := 63) (pc := 49) K dJ6_bitCount_0f7a4_49 (by decide) ?_
  refine x_iand (pc := 51) K dJ6_bitCount_0f7a4_51 ?_
  exact hE (y5 &&& 63) () _ _ h dJ6_bitCount_0f7a4_52
abbrev rm_J13_bitCount_95d88 : Room := { frames := 8, cells := 0, slots := 0, locals := 120 }
theorem kJ13_bitCount_95d88_0 : Cond.constantLong RJ13 314 (6148914691236517205) ∈ wsJ13_bitCount_95d88 := by decide +kernel
theorem kJ13_bitCount_95d88_1 : Cond.constantLong RJ13 316 (3689348814741910323) ∈ wsJ13_bitCount_95d88 := by decide +kernel
theorem kJ13_bitCount_95d88_2 : Cond.constantLong RJ13 318 (1085102592571150095) ∈ wsJ13_bitCount_95d88 := by decide +kernel
def q_J13_bitCount_95d88 (p0 : Int64) (P : Int32 → Prop) : Prop := xl (p0 - ((xlushr p0 1) &&& 6148914691236517205)) (fun y1 => xl ((y1 &&& 3689348814741910323) + ((xlushr y1 2) &&& 3689348814741910323)) (fun y2 => xl ((y2 + (xlushr y2 4)) &&& 1085102592571150095) (fun y3 => xl (y3 + (xlushr y3 8)) (fun y4 => xl (y4 + (xlushr y4 16)) (fun y5 => xl (y5 + (xlushr y5 32)) (fun y6 => P (y6.toInt32 &&& 127)))))))
set_option maxHeartbeats 4000000 in
set_option maxRecDepth 100000 in
theorem c_J13_bitCount_95d88 (l : Launch) (D : va_G) (cI cJ cZ cA : ClassId) (p0 : Int64) (P : Int32 → Prop) (h : q_J13_bitCount_95d88 p0 P) : xMi l yJ13_bitCount_95d88 wsJ13_bitCount_95d88 rm_J13_bitCount_95d88 D vwCl (xtys cI cJ cZ cA) [] [.long p0] (σ := Unit) (fun _ => []) (fun r _ => P r) := by
  refine xMi_of (cc := cJ13_bitCount_95d88) (maxL := 2) (by decide) rfl (Nat.le_of_ble_eq_true rfl) ?_
  intro X K hE
  have K : xk X l rm_J13_bitCount_95d88 D vwCl (xtys cI cJ cZ cA) cJ13_bitCount_95d88 RJ13 wsJ13_bitCount_95d88 2 := K
  unfold q_J13_bitCount_95d88 at h
  refine x_lload_n (pc := 0) K dJ13_bitCount_95d88_0 0 rfl rfl ?_
  refine x_lload_n (pc := 1) K dJ13_bitCount_95d88_1 0 rfl rfl ?_
  refine x_iconst (v := 1) (pc := 2) K dJ13_bitCount_95d88_2 (by decide) ?_
  refine x_lushr (pc := 3) K dJ13_bitCount_95d88_3 ?_
  refine x_ldc2 (pc := 4) (v := 6148914691236517205) K kJ13_bitCount_95d88_0 dJ13_bitCount_95d88_4 ?_
  refine x_land (pc := 7) K dJ13_bitCount_95d88_7 ?_
  refine x_lsub (pc := 8) K dJ13_bitCount_95d88_8 ?_
  obtain ⟨y1, ey1, h⟩ := xl_o h
  refine x_topl ey1 ?_
  clear ey1
  refine x_lstore_n (lv' := [(0, .long y1)]) (pc := 9) K dJ13_bitCount_95d88_9 rfl (by decide) rfl ?_
  refine x_lload_n (pc := 10) K dJ13_bitCount_95d88_10 0 rfl rfl ?_
  refine x_ldc2 (pc := 11) (v := 3689348814741910323) K kJ13_bitCount_95d88_1 dJ13_bitCount_95d88_11 ?_
  refine x_land (pc := 14) K dJ13_bitCount_95d88_14 ?_
  refine x_lload_n (pc := 15) K dJ13_bitCount_95d88_15 0 rfl rfl ?_
  refine x_iconst (v := 2) (pc := 16) K dJ13_bitCount_95d88_16 (by decide) ?_
  refine x_lushr (pc := 17) K dJ13_bitCount_95d88_17 ?_
  refine x_ldc2 (pc := 18) (v := 3689348814741910323) K kJ13_bitCount_95d88_1 dJ13_bitCount_95d88_18 ?_
  refine x_land (pc := 21) K dJ13_bitCount_95d88_21 ?_
  refine x_ladd (pc := 22) K dJ13_bitCount_95d88_22 ?_
  obtain ⟨y2, ey2, h⟩ := xl_o h
  refine x_topl ey2 ?_
  clear ey2
  refine x_lstore_n (lv' := [(0, .long y2)]) (pc := 23) K dJ13_bitCount_95d88_23 rfl (by decide) rfl ?_
  refine x_lload_n (pc := 24) K dJ13_bitCount_95d88_24 0 rfl rfl ?_
  refine x_lload_n (pc := 25) K dJ13_bitCount_95d88_25 0 rfl rfl ?_
  refine x_iconst (v := 4) (pc := 26) K dJ13_bitCount_95d88_26 (by decide) ?_
  refine x_lushr (pc := 27) K dJ13_bitCount_95d88_27 ?_
  refine x_ladd (pc := 28) K dJ13_bitCount_95d88_28 ?_
  refine x_ldc2 (pc := 29) (v := 1085102592571150095) K kJ13_bitCount_95d88_2 dJ13_bitCount_95d88_29 ?_
  refine x_land (pc := 32) K dJ13_bitCount_95d88_32 ?_
  obtain ⟨y3, ey3, h⟩ := xl_o h
  refine x_topl ey3 ?_
  clear ey3
  refine x_lstore_n (lv' := [(0, .long y3)]) (pc := 33) K dJ13_bitCount_95d88_33 rfl (by decide) rfl ?_
  refine x_lload_n (pc := 34) K dJ13_bitCount_95d88_34 0 rfl rfl ?_
  refine x_lload_n (pc := 35) K dJ13_bitCount_95d88_35 0 rfl rfl ?_
  refine x_bipush (v := 8) (pc := 36) K dJ13_bitCount_95d88_36 (by decide) ?_
  refine x_lushr (pc := 38) K dJ13_bitCount_95d88_38 ?_
  refine x_ladd (pc := 39) K dJ13_bitCount_95d88_39 ?_
  obtain ⟨y4, ey4, h⟩ := xl_o h
  refine x_topl ey4 ?_
  clear ey4
  refine x_lstore_n (lv' := [(0, .long y4)]) (pc := 40) K dJ13_bitCount_95d88_40 rfl (by decide) rfl ?_
  refine x_lload_n (pc := 41) K dJ13_bitCount_95d88_41 0 rfl rfl ?_
  refine x_lload_n (pc := 42) K dJ13_bitCount_95d88_42 0 rfl rfl ?_
  refine x_bipush (v := 16) (pc := 43) K dJ13_bitCount_95d88_43 (by decide) ?_
  refine x_lushr (pc := 45) K dJ13_bitCount_95d88_45 ?_
  refine x_ladd (pc := 46) K dJ13_bitCount_95d88_46 ?_
  obtain ⟨y5, ey5, h⟩ := xl_o h
  refine x_topl ey5 ?_
  clear ey5
  refine x_lstore_n (lv' := [(0, .long y5)]) (pc := 47) K dJ13_bitCount_95d88_47 rfl (by decide) rfl ?_
  refine x_lload_n (pc := 48) K dJ13_bitCount_95d88_48 0 rfl rfl ?_
  refine x_lload_n (pc := 49) K dJ13_bitCount_95d88_49 0 rfl rfl ?_
  refine x_bipush (v := 32) (pc := 50) K dJ13_bitCount_95d88_50 (by decide) ?_
  refine x_lushr (pc := 52) K dJ13_bitCount_95d88_52 ?_
  refine x_ladd (pc := 53) K dJ13_bitCount_95d88_53 ?_
  obtain ⟨y6, ey6, h⟩ := xl_o h
  refine x_topl ey6 ?_
  clear ey6
  refine x_lstore_n (lv' := [(0, .long y6)]) (pc := 54) K dJ13_bitCount_95d88_54 rfl (by decide) rfl ?_
  refine x_lload_n (pc := 55) K dJ13_bitCount_95d88_55 0 rfl rfl ?_
  refine x_l2i (pc := 56) K dJ13_bitCount_95d88_56 ?_
  refine x_bipush (v := 127) (pc := 57) K dJ13_bitCount_95d88_57 (by decide) ?_
  refine x_iand (pc := 59) K dJ13_bitCount_95d88_59 ?_
  exact hE (y6.toInt32 &&& 127) () _ _ h dJ13_bitCount_95d88_60
abbrev rm_J7_fill_d0a16 : Room := { frames := 8, cells := 0, slots := 0, locals := 120 }
def q_J7_fill_d0a16_L6 (u1 : Int64) (u4 : Int32) (P0 : (Nat → Int64) → Prop) : Nat → Int32 → (Nat → Int64) → Prop
  | 0, _, _ => False
  | n + 1, x3, arr => ((u4 ≤ x3 → P0 arr) ∧ (¬ u4 ≤ x3 → xin x3 1024 = true ∧ q_J7_fill_d0a16_L6 u1 u4 P0 n (x3 + 1) (vp_updL arr x3.toNatClampNeg u1)))
def q_J7_fill_d0a16 (p1 : Int64) (arr : Nat → Int64) (P : (Nat → Int64) → Prop) : Prop := xl (nI 1024) (fun y1 => (∃ n3 : Nat, q_J7_fill_d0a16_L6 p1 y1 (fun (v4 : Nat → Int64) => P v4) n3 0 arr))
set_option maxHeartbeats 4000000 in
set_option maxRecDepth 100000 in
theorem w_J7_fill_d0a16_L6 {X : xC} {l : Launch} {D : va_G} {cI cJ cZ cA : ClassId} {a_arr : Nat} (K : xk X l rm_J7_fill_d0a16 D vwCl (xtys cI cJ cZ cA) cJ7_fill_d0a16 RJ7 wsJ7_fill_d0a16 5) (u1 : Int64) (u4 : Int32) (P0 : (Nat → Int64) → Prop) : ∀ (n : Nat) (x3 : Int32) (arr : Nat → Int64), q_J7_fill_d0a16_L6 u1 u4 P0 n x3 arr → (∀ (z0 : Nat → Int64), P0 z0 → xw X 0 0 22 [] [] [(a_arr, .inl (cJ, 1024, .inr (.inl z0)))]) → xw X 0 0 6 [(0, .ref a_arr), (1, .long u1), (3, .int x3), (4, .int u4)] [] [(a_arr, .inl (cJ, 1024, .inr (.inl arr)))] := by
  intro n
  induction n with
  | zero =>
    intro x3 arr h
    rw [q_J7_fill_d0a16_L6] at h
    exact h.elim
  | succ n ih =>
    intro x3 arr h k0
    rw [q_J7_fill_d0a16_L6] at h
    refine x_iload_n (pc := 6) K dJ7_fill_d0a16_6 2 rfl rfl ?_
    refine x_iload (pc := 7) K dJ7_fill_d0a16_7 3 rfl ?_
    refine x_icmp_ge (pc := 9) K dJ7_fill_d0a16_9 (tgt := 22) (by decide) (fun c9 => ?_) (fun c9 => ?_)
    · have h := h.1 c9
      refine x_keep [false, false, false, false] rfl ?_
      exact k0 arr h
    · have h := h.2 c9
      refine x_aload_n (pc := 12) K dJ7_fill_d0a16_12 0 rfl rfl ?_
      refine x_iload_n (pc := 13) K dJ7_fill_d0a16_13 2 rfl rfl ?_
      refine x_lload_n (pc := 14) K dJ7_fill_d0a16_14 1 rfl rfl ?_
      have g9 := h.1
      replace h := h.2
      refine x_last (ws' := [(a_arr, .inl (cJ, 1024, .inr (.inl (vp_updL arr x3.toNatClampNeg u1))))]) (pc := 15) K 0 1 rfl rfl rfl g9 dJ7_fill_d0a16_15 ?_
      clear g9
      refine x_iinc (v := x3 + 1) (lv' := [(0, .ref a_arr), (1, .long u1), (3, .int (x3 + 1)), (4, .int u4)]) (pc := 16) K dJ7_fill_d0a16_16 (k := 2) rfl rfl (by decide) rfl ?_
      refine x_goto (pc := 19) K dJ7_fill_d0a16_19 (tgt := 6) (by decide) ?_
      exact ih (x3 + 1) (vp_updL arr x3.toNatClampNeg u1) h k0
set_option maxHeartbeats 4000000 in
set_option maxRecDepth 100000 in
theorem c_J7_fill_d0a16 (l : Launch) (D : va_G) (cI cJ cZ cA : ClassId) (a_arr : Nat) (p1 : Int64) (arr : Nat → Int64) (P : (Nat → Int64) → Prop) (h : q_J7_fill_d0a16 p1 arr P) : xMv l yJ7_fill_d0a16 wsJ7_fill_d0a16 rm_J7_fill_d0a16 D vwCl (xtys cI cJ cZ cA) [(a_arr, .inl (cJ, 1024, .inr (.inl arr)))] [.ref a_arr, .long p1] (σ := (Nat → Int64)) (fun u => [(a_arr, .inl (cJ, 1024, .inr (.inl u)))]) (fun u => P u) := by
  refine xMv_of (cc := cJ7_fill_d0a16) (maxL := 5) (by decide) rfl (Nat.le_of_ble_eq_true rfl) ?_
  intro X K hE
  have K : xk X l rm_J7_fill_d0a16 D vwCl (xtys cI cJ cZ cA) cJ7_fill_d0a16 RJ7 wsJ7_fill_d0a16 5 := K
  unfold q_J7_fill_d0a16 at h
  refine x_iconst (v := 0) (pc := 0) K dJ7_fill_d0a16_0 (by decide) ?_
  refine x_istore_n (lv' := [(0, .ref a_arr), (1, .long p1), (3, .int 0)]) (pc := 1) K dJ7_fill_d0a16_1 rfl (by decide) rfl ?_
  refine x_aload_n (pc := 2) K dJ7_fill_d0a16_2 0 rfl rfl ?_
  refine x_alen (pc := 3) K 0 1 rfl rfl dJ7_fill_d0a16_3 ?_
  obtain ⟨y1, ey1, h⟩ := xl_o h
  refine x_topi ey1 ?_
  clear ey1
  refine x_istore (lv' := [(0, .ref a_arr), (1, .long p1), (3, .int 0), (4, .int y1)]) (pc := 4) K dJ7_fill_d0a16_4 (by decide) rfl ?_
  obtain ⟨n3, h⟩ := h
  refine w_J7_fill_d0a16_L6 K p1 y1 _ n3 0 arr h (fun v4 h => ?_)
  exact hE v4 _ _ h dJ7_fill_d0a16_22
abbrev rm_X0_has : Room := { frames := 8, cells := 0, slots := 0, locals := 120 }
def q_X0_has (p0 : Int32) (p1 : Int32) (P : Int32 → Prop) : Prop := (((p0 &&& (1 <<< (p1 &&& 31))) = 0 → (xbool 0 ∧ P 0)) ∧ (¬ (p0 &&& (1 <<< (p1 &&& 31))) = 0 → (xbool 1 ∧ P 1)))
set_option maxHeartbeats 4000000 in
set_option maxRecDepth 100000 in
theorem c_X0_has (l : Launch) (D : va_G) (cI cJ cZ cA : ClassId) (p0 : Int32) (p1 : Int32) (P : Int32 → Prop) (h : q_X0_has p0 p1 P) : xMz l yX0_has wsX0_has rm_X0_has D vwCl (xtys cI cJ cZ cA) [] [.int p0, .int p1] (σ := Unit) (fun _ => []) (fun r _ => P r) := by
  refine xMz_of (cc := cX0_has) (maxL := 2) (by decide) rfl (Nat.le_of_ble_eq_true rfl) ?_
  intro X K hE
  have K : xk X l rm_X0_has D vwCl (xtys cI cJ cZ cA) cX0_has RX0 wsX0_has 2 := K
  unfold q_X0_has at h
  refine x_iload_n (pc := 0) K dX0_has_0 0 rfl rfl ?_
  refine x_iconst (v := 1) (pc := 1) K dX0_has_1 (by decide) ?_
  refine x_iload_n (pc := 2) K dX0_has_2 1 rfl rfl ?_
  refine x_ishl (pc := 3) K dX0_has_3 ?_
  refine x_iand (pc := 4) K dX0_has_4 ?_
  refine x_if_eq (pc := 5) K dX0_has_5 (tgt := 12) (by decide) (fun c9 => ?_) (fun c9 => ?_)
  · have h := h.1 c9
    refine x_keep [false, false] rfl ?_
    refine x_iconst (v := 0) (pc := 12) K dX0_has_12 (by decide) ?_
    exact hE 0 () _ _ h.2 h.1 dX0_has_13
  · have h := h.2 c9
    refine x_keep [false, false] rfl ?_
    refine x_iconst (v := 1) (pc := 8) K dX0_has_8 (by decide) ?_
    refine x_goto (pc := 9) K dX0_has_9 (tgt := 13) (by decide) ?_
    exact hE 1 () _ _ h.2 h.1 dX0_has_13
abbrev rm_X0_above : Room := { frames := 8, cells := 0, slots := 0, locals := 120 }
def q_X0_above (p0 : Int64) (P : Int64 → Prop) : Prop := P (xlushr p0 6)
set_option maxHeartbeats 4000000 in
set_option maxRecDepth 100000 in
theorem c_X0_above (l : Launch) (D : va_G) (cI cJ cZ cA : ClassId) (p0 : Int64) (P : Int64 → Prop) (h : q_X0_above p0 P) : xMl l yX0_above wsX0_above rm_X0_above D vwCl (xtys cI cJ cZ cA) [] [.long p0] (σ := Unit) (fun _ => []) (fun r _ => P r) := by
  refine xMl_of (cc := cX0_above) (maxL := 2) (by decide) rfl (Nat.le_of_ble_eq_true rfl) ?_
  intro X K hE
  have K : xk X l rm_X0_above D vwCl (xtys cI cJ cZ cA) cX0_above RX0 wsX0_above 2 := K
  unfold q_X0_above at h
  refine x_lload_n (pc := 0) K dX0_above_0 0 rfl rfl ?_
  refine x_bipush (v := 6) (pc := 1) K dX0_above_1 (by decide) ?_
  refine x_lushr (pc := 3) K dX0_above_3 ?_
  exact hE (xlushr p0 6) () _ _ h dX0_above_4
abbrev rm_X0_below : Room := { frames := 8, cells := 0, slots := 0, locals := 120 }
theorem kX0_below_0 : Cond.constantLong RX0 110 (68719476735) ∈ wsX0_below := by decide +kernel
def q_X0_below (p0 : Int64) (P : Int64 → Prop) : Prop := P ((xlshl p0 6) &&& 68719476735)
set_option maxHeartbeats 4000000 in
set_option maxRecDepth 100000 in
theorem c_X0_below (l : Launch) (D : va_G) (cI cJ cZ cA : ClassId) (p0 : Int64) (P : Int64 → Prop) (h : q_X0_below p0 P) : xMl l yX0_below wsX0_below rm_X0_below D vwCl (xtys cI cJ cZ cA) [] [.long p0] (σ := Unit) (fun _ => []) (fun r _ => P r) := by
  refine xMl_of (cc := cX0_below) (maxL := 2) (by decide) rfl (Nat.le_of_ble_eq_true rfl) ?_
  intro X K hE
  have K : xk X l rm_X0_below D vwCl (xtys cI cJ cZ cA) cX0_below RX0 wsX0_below 2 := K
  unfold q_X0_below at h
  refine x_lload_n (pc := 0) K dX0_below_0 0 rfl rfl ?_
  refine x_bipush (v := 6) (pc := 1) K dX0_below_1 (by decide) ?_
  refine x_lshl (pc := 3) K dX0_below_3 ?_
  refine x_ldc2 (pc := 4) (v := 68719476735) K kX0_below_0 dX0_below_4 ?_
  refine x_land (pc := 7) K dX0_below_7 ?_
  exact hE ((xlshl p0 6) &&& 68719476735) () _ _ h dX0_below_8
abbrev rm_X0_leftOf : Room := { frames := 8, cells := 0, slots := 0, locals := 120 }
theorem kX0_leftOf_0 : Cond.constantLong RX0 196 (-1090785346) ∈ wsX0_leftOf := by decide +kernel
def q_X0_leftOf (p0 : Int64) (P : Int64 → Prop) : Prop := P (xlushr (p0 &&& (-1090785346)) 1)
set_option maxHeartbeats 4000000 in
set_option maxRecDepth 100000 in
theorem c_X0_leftOf (l : Launch) (D : va_G) (cI cJ cZ cA : ClassId) (p0 : Int64) (P : Int64 → Prop) (h : q_X0_leftOf p0 P) : xMl l yX0_leftOf wsX0_leftOf rm_X0_leftOf D vwCl (xtys cI cJ cZ cA) [] [.long p0] (σ := Unit) (fun _ => []) (fun r _ => P r) := by
  refine xMl_of (cc := cX0_leftOf) (maxL := 2) (by decide) rfl (Nat.le_of_ble_eq_true rfl) ?_
  intro X K hE
  have K : xk X l rm_X0_leftOf D vwCl (xtys cI cJ cZ cA) cX0_leftOf RX0 wsX0_leftOf 2 := K
  unfold q_X0_leftOf at h
  refine x_lload_n (pc := 0) K dX0_leftOf_0 0 rfl rfl ?_
  refine x_ldc2 (pc := 1) (v := (-1090785346)) K kX0_leftOf_0 dX0_leftOf_1 ?_
  refine x_land (pc := 4) K dX0_leftOf_4 ?_
  refine x_iconst (v := 1) (pc := 5) K dX0_leftOf_5 (by decide) ?_
  refine x_lushr (pc := 6) K dX0_leftOf_6 ?_
  exact hE (xlushr (p0 &&& (-1090785346)) 1) () _ _ h dX0_leftOf_7
abbrev rm_X0_rightOf : Room := { frames := 8, cells := 0, slots := 0, locals := 120 }
theorem kX0_rightOf_0 : Cond.constantLong RX0 198 (-34905131041) ∈ wsX0_rightOf := by decide +kernel
def q_X0_rightOf (p0 : Int64) (P : Int64 → Prop) : Prop := P (xlshl (p0 &&& (-34905131041)) 1)
set_option maxHeartbeats 4000000 in
set_option maxRecDepth 100000 in
theorem c_X0_rightOf (l : Launch) (D : va_G) (cI cJ cZ cA : ClassId) (p0 : Int64) (P : Int64 → Prop) (h : q_X0_rightOf p0 P) : xMl l yX0_rightOf wsX0_rightOf rm_X0_rightOf D vwCl (xtys cI cJ cZ cA) [] [.long p0] (σ := Unit) (fun _ => []) (fun r _ => P r) := by
  refine xMl_of (cc := cX0_rightOf) (maxL := 2) (by decide) rfl (Nat.le_of_ble_eq_true rfl) ?_
  intro X K hE
  have K : xk X l rm_X0_rightOf D vwCl (xtys cI cJ cZ cA) cX0_rightOf RX0 wsX0_rightOf 2 := K
  unfold q_X0_rightOf at h
  refine x_lload_n (pc := 0) K dX0_rightOf_0 0 rfl rfl ?_
  refine x_ldc2 (pc := 1) (v := (-34905131041)) K kX0_rightOf_0 dX0_rightOf_1 ?_
  refine x_land (pc := 4) K dX0_rightOf_4 ?_
  refine x_iconst (v := 1) (pc := 5) K dX0_rightOf_5 (by decide) ?_
  refine x_lshl (pc := 6) K dX0_rightOf_6 ?_
  exact hE (xlshl (p0 &&& (-34905131041)) 1) () _ _ h dX0_rightOf_7
abbrev rm_X0_spread : Room := { frames := 9, cells := 0, slots := 0, locals := 160 }
def q_X0_spread (p0 : Int64) (P : Int64 → Prop) : Prop := q_X0_above p0 (fun (r1 : Int64) => q_X0_below p0 (fun (r2 : Int64) => q_X0_leftOf p0 (fun (r3 : Int64) => q_X0_rightOf p0 (fun (r4 : Int64) => P ((((p0 ||| r1) ||| r2) ||| r3) ||| r4)))))
set_option maxHeartbeats 4000000 in
set_option maxRecDepth 100000 in
theorem c_X0_spread (l : Launch) (D : va_G) (cI cJ cZ cA : ClassId) (p0 : Int64) (P : Int64 → Prop) (h : q_X0_spread p0 P) : xMl l yX0_spread wsX0_spread rm_X0_spread D vwCl (xtys cI cJ cZ cA) [] [.long p0] (σ := Unit) (fun _ => []) (fun r _ => P r) := by
  refine xMl_of (cc := cX0_spread) (maxL := 2) (by decide) rfl (Nat.le_of_ble_eq_true rfl) ?_
  intro X K hE
  have K : xk X l rm_X0_spread D vwCl (xtys cI cJ cZ cA) cX0_spread RX0 wsX0_spread 2 := K
  unfold q_X0_spread at h
  refine x_lload_n (pc := 0) K dX0_spread_0 0 rfl rfl ?_
  refine x_lload_n (pc := 1) K dX0_spread_1 0 rfl rfl ?_
  refine x_pcallSl (pc := 2) (n := 1) K (c_X0_above l D cI cJ cZ cA p0 _ h) rfl rfl gX0_spread_X0_above rfl (by decide +kernel) ⟨Nat.le_of_ble_eq_true rfl, Nat.le_of_ble_eq_true rfl⟩ rfl (av := [.long p0]) rfl (Nat.le_of_ble_eq_true rfl) dX0_spread_2 ⟨Nat.le_of_ble_eq_true rfl, Nat.le_of_ble_eq_true rfl⟩ (fun r1 u9 h => ?_)
  refine x_lor (pc := 5) K dX0_spread_5 ?_
  refine x_lload_n (pc := 6) K dX0_spread_6 0 rfl rfl ?_
  refine x_pcallSl (pc := 7) (n := 1) K (c_X0_below l D cI cJ cZ cA p0 _ h) rfl rfl gX0_spread_X0_below rfl (by decide +kernel) ⟨Nat.le_of_ble_eq_true rfl, Nat.le_of_ble_eq_true rfl⟩ rfl (av := [.long p0]) rfl (Nat.le_of_ble_eq_true rfl) dX0_spread_7 ⟨Nat.le_of_ble_eq_true rfl, Nat.le_of_ble_eq_true rfl⟩ (fun r2 u9 h => ?_)
  refine x_lor (pc := 10) K dX0_spread_10 ?_
  refine x_lload_n (pc := 11) K dX0_spread_11 0 rfl rfl ?_
  refine x_pcallSl (pc := 12) (n := 1) K (c_X0_leftOf l D cI cJ cZ cA p0 _ h) rfl rfl gX0_spread_X0_leftOf rfl (by decide +kernel) ⟨Nat.le_of_ble_eq_true rfl, Nat.le_of_ble_eq_true rfl⟩ rfl (av := [.long p0]) rfl (Nat.le_of_ble_eq_true rfl) dX0_spread_12 ⟨Nat.le_of_ble_eq_true rfl, Nat.le_of_ble_eq_true rfl⟩ (fun r3 u9 h => ?_)
  refine x_lor (pc := 15) K dX0_spread_15 ?_
  refine x_lload_n (pc := 16) K dX0_spread_16 0 rfl rfl ?_
  refine x_pcallSl (pc := 17) (n := 1) K (c_X0_rightOf l D cI cJ cZ cA p0 _ h) rfl rfl gX0_spread_X0_rightOf rfl (by decide +kernel) ⟨Nat.le_of_ble_eq_true rfl, Nat.le_of_ble_eq_true rfl⟩ rfl (av := [.long p0]) rfl (Nat.le_of_ble_eq_true rfl) dX0_spread_17 ⟨Nat.le_of_ble_eq_true rfl, Nat.le_of_ble_eq_true rfl⟩ (fun r4 u9 h => ?_)
  refine x_lor (pc := 20) K dX0_spread_20 ?_
  exact hE ((((p0 ||| r1) ||| r2) ||| r3) ||| r4) () _ _ h dX0_spread_21
abbrev rm_X0_reach : Room := { frames := 10, cells := 0, slots := 0, locals := 200 }
def q_X0_reach_L6 (u2 : Int64) (P0 : Int64 → Prop) (P1 : Int64 → Prop) : Nat → Int64 → Int32 → Prop
  | 0, _, _ => False
  | n + 1, x4, x6 => ((36 ≤ x6 → P0 x4) ∧ (¬ 36 ≤ x6 → q_X0_spread x4 (fun (r1 : Int64) => xl (r1 &&& u2) (fun y2 => ((¬ (lg_cmp y2 x4) = 0 → q_X0_reach_L6 u2 P0 P1 n y2 (x6 + 1)) ∧ ((lg_cmp y2 x4) = 0 → P1 x4))))))
def q_X0_reach (p0 : Int64) (p2 : Int64) (P : Int64 → Prop) : Prop := (∃ n3 : Nat, q_X0_reach_L6 p2 (fun (v4 : Int64) => P v4) (fun (v5 : Int64) => P v5) n3 p0 0)
set_option maxHeartbeats 4000000 in
set_option maxRecDepth 100000 in
theorem w_X0_reach_L6 {X : xC} {l : Launch} {D : va_G} {cI cJ cZ cA : ClassId} (K : xk X l rm_X0_reach D vwCl (xtys cI cJ cZ cA) cX0_reach RX0 wsX0_reach 9) (u2 : Int64) (P0 : Int64 → Prop) (P1 : Int64 → Prop) : ∀ (n : Nat) (x4 : Int64) (x6 : Int32), q_X0_reach_L6 u2 P0 P1 n x4 x6 → (∀ (z0 : Int64), P0 z0 → xw X 0 0 43 [(4, .long z0)] [] []) → (∀ (z0 : Int64), P1 z0 → xw X 0 0 30 [(4, .long z0)] [] []) → xw X 0 0 6 [(2, .long u2), (4, .long x4), (6, .int x6)] [] [] := by
  intro n
  induction n with
  | zero =>
    intro x4 x6 h
    rw [q_X0_reach_L6] at h
    exact h.elim
  | succ n ih =>
    intro x4 x6 h k0 k1
    rw [q_X0_reach_L6] at h
    refine x_iload (pc := 6) K dX0_reach_6 2 rfl ?_
    refine x_bipush (v := 36) (pc := 8) K dX0_reach_8 (by decide) ?_
    refine x_icmp_ge (pc := 10) K dX0_reach_10 (tgt := 43) (by decide) (fun c9 => ?_) (fun c9 => ?_)
    · have h := h.1 c9
      refine x_keep [false, true, false] rfl ?_
      exact k0 x4 h
    · have h := h.2 c9
      refine x_lload (pc := 13) K dX0_reach_13 1 rfl ?_
      refine x_pcallSl (pc := 15) (n := 1) K (c_X0_spread l D cI cJ cZ cA x4 _ h) rfl rfl gX0_reach_X0_spread rfl (by decide +kernel) ⟨Nat.le_of_ble_eq_true rfl, Nat.le_of_ble_eq_true rfl⟩ rfl (av := [.long x4]) rfl (Nat.le_of_ble_eq_true rfl) dX0_reach_15 ⟨Nat.le_of_ble_eq_true rfl, Nat.le_of_ble_eq_true rfl⟩ (fun r1 u9 h => ?_)
      refine x_lload_n (pc := 18) K dX0_reach_18 0 rfl rfl ?_
      refine x_land (pc := 19) K dX0_reach_19 ?_
      obtain ⟨y2, ey2, h⟩ := xl_o h
      refine x_topl ey2 ?_
      clear ey2
      refine x_lstore (lv' := [(2, .long u2), (4, .long x4), (6, .int x6), (7, .long y2)]) (pc := 20) K dX0_reach_20 (by decide) rfl ?_
      refine x_lload (pc := 22) K dX0_reach_22 3 rfl ?_
      refine x_lload (pc := 24) K dX0_reach_24 1 rfl ?_
      refine x_lcmp (pc := 26) K dX0_reach_26 ?_
      refine x_if_ne (pc := 27) K dX0_reach_27 (tgt := 33) (by decide) (fun c9 => ?_) (fun c9 => ?_)
      · have h := h.1 c9
        refine x_keep [true, false, true, true] rfl ?_
        refine x_lload (pc := 33) K dX0_reach_33 2 rfl ?_
        refine x_lstore (lv' := [(2, .long u2), (4, .long y2), (6, .int x6), (7, .long y2)]) (pc := 35) K dX0_reach_35 (by decide) rfl ?_
        refine x_iinc (v := x6 + 1) (lv' := [(2, .long u2), (4, .long y2), (6, .int (x6 + 1)), (7, .long y2)]) (pc := 37) K dX0_reach_37 (k := 2) rfl rfl (by decide) rfl ?_
        refine x_goto (pc := 40) K dX0_reach_40 (tgt := 6) (by decide) ?_
        refine x_keep [true, true, true, false] rfl ?_
        exact ih y2 (x6 + 1) h k0 k1
      · have h := h.2 c9
        refine x_keep [false, true, false, false] rfl ?_
        exact k1 x4 h
set_option maxHeartbeats 4000000 in
set_option maxRecDepth 100000 in
theorem c_X0_reach (l : Launch) (D : va_G) (cI cJ cZ cA : ClassId) (p0 : Int64) (p2 : Int64) (P : Int64 → Prop) (h : q_X0_reach p0 p2 P) : xMl l yX0_reach wsX0_reach rm_X0_reach D vwCl (xtys cI cJ cZ cA) [] [.long p0, .long p2] (σ := Unit) (fun _ => []) (fun r _ => P r) := by
  refine xMl_of (cc := cX0_reach) (maxL := 9) (by decide) rfl (Nat.le_of_ble_eq_true rfl) ?_
  intro X K hE
  have K : xk X l rm_X0_reach D vwCl (xtys cI cJ cZ cA) cX0_reach RX0 wsX0_reach 9 := K
  unfold q_X0_reach at h
  refine x_lload_n (pc := 0) K dX0_reach_0 0 rfl rfl ?_
  refine x_lstore (lv' := [(0, .long p0), (2, .long p2), (4, .long p0)]) (pc := 1) K dX0_reach_1 (by decide) rfl ?_
  refine x_iconst (v := 0) (pc := 3) K dX0_reach_3 (by decide) ?_
  refine x_istore (lv' := [(0, .long p0), (2, .long p2), (4, .long p0), (6, .int 0)]) (pc := 4) K dX0_reach_4 (by decide) rfl ?_
  refine x_keep [false, true, true, true] rfl ?_
  obtain ⟨n3, h⟩ := h
  refine w_X0_reach_L6 K p2 _ _ n3 p0 0 h (fun v4 h => ?_) (fun v5 h => ?_)
  · refine x_lload (pc := 43) K dX0_reach_43 0 rfl ?_
    exact hE v4 () _ _ h dX0_reach_45
  · refine x_lload (pc := 30) K dX0_reach_30 0 rfl ?_
    exact hE v5 () _ _ h dX0_reach_32
abbrev rm_X0_pieceIn : Room := { frames := 11, cells := 0, slots := 0, locals := 240 }
def q_X0_pieceIn (p0 : Int64) (P : Int64 → Prop) : Prop := q_X0_reach (p0 &&& (-p0)) p0 (fun (r1 : Int64) => P r1)
set_option maxHeartbeats 4000000 in
set_option maxRecDepth 100000 in
theorem c_X0_pieceIn (l : Launch) (D : va_G) (cI cJ cZ cA : ClassId) (p0 : Int64) (P : Int64 → Prop) (h : q_X0_pieceIn p0 P) : xMl l yX0_pieceIn wsX0_pieceIn rm_X0_pieceIn D vwCl (xtys cI cJ cZ cA) [] [.long p0] (σ := Unit) (fun _ => []) (fun r _ => P r) := by
  refine xMl_of (cc := cX0_pieceIn) (maxL := 2) (by decide) rfl (Nat.le_of_ble_eq_true rfl) ?_
  intro X K hE
  have K : xk X l rm_X0_pieceIn D vwCl (xtys cI cJ cZ cA) cX0_pieceIn RX0 wsX0_pieceIn 2 := K
  unfold q_X0_pieceIn at h
  refine x_lload_n (pc := 0) K dX0_pieceIn_0 0 rfl rfl ?_
  refine x_lload_n (pc := 1) K dX0_pieceIn_1 0 rfl rfl ?_
  refine x_lneg (pc := 2) K dX0_pieceIn_2 ?_
  refine x_land (pc := 3) K dX0_pieceIn_3 ?_
  refine x_lload_n (pc := 4) K dX0_pieceIn_4 0 rfl rfl ?_
  refine x_pcallSl (pc := 5) (n := 2) K (c_X0_reach l D cI cJ cZ cA (p0 &&& (-p0)) p0 _ h) rfl rfl gX0_pieceIn_X0_reach rfl (by decide +kernel) ⟨Nat.le_of_ble_eq_true rfl, Nat.le_of_ble_eq_true rfl⟩ rfl (av := [.long (p0 &&& (-p0)), .long p0]) rfl (Nat.le_of_ble_eq_true rfl) dX0_pieceIn_5 ⟨Nat.le_of_ble_eq_true rfl, Nat.le_of_ble_eq_true rfl⟩ (fun r1 u9 h => ?_)
  exact hE r1 () _ _ h dX0_pieceIn_8
abbrev rm_X0_countPieces : Room := { frames := 12, cells := 0, slots := 0, locals := 280 }
theorem kX0_countPieces_0 : Cond.constantLong RX0 70 (-1) ∈ wsX0_countPieces := by decide +kernel
def q_X0_countPieces_L5 (P0 : Int32 → Prop) : Nat → Int64 → Int32 → Prop
  | 0, _, _ => False
  | n + 1, x2, x4 => ((36 ≤ x4 → P0 x4) ∧ (¬ 36 ≤ x4 → (((lg_cmp x2 0) = 0 → P0 x4) ∧ (¬ (lg_cmp x2 0) = 0 → q_X0_pieceIn x2 (fun (r1 : Int64) => xl (x2 &&& (r1 ^^^ (-1))) (fun y2 => q_X0_countPieces_L5 P0 n y2 (x4 + 1)))))))
def q_X0_countPieces (p0 : Int64) (P : Int32 → Prop) : Prop := (∃ n3 : Nat, q_X0_countPieces_L5 (fun (v4 : Int32) => P v4) n3 p0 0)
set_option maxHeartbeats 4000000 in
set_option maxRecDepth 100000 in
theorem w_X0_countPieces_L5 {X : xC} {l : Launch} {D : va_G} {cI cJ cZ cA : ClassId} (K : xk X l rm_X0_countPieces D vwCl (xtys cI cJ cZ cA) cX0_countPieces RX0 wsX0_countPieces 5) (P0 : Int32 → Prop) : ∀ (n : Nat) (x2 : Int64) (x4 : Int32), q_X0_countPieces_L5 P0 n x2 x4 → (∀ (z0 : Int32), P0 z0 → xw X 0 0 35 [(4, .int z0)] [] []) → xw X 0 0 5 [(2, .long x2), (4, .int x4)] [] [] := by
  intro n
  induction n with
  | zero =>
    intro x2 x4 h
    rw [q_X0_countPieces_L5] at h
    exact h.elim
  | succ n ih =>
    intro x2 x4 h k0
    rw [q_X0_countPieces_L5] at h
    refine x_iload (pc := 5) K dX0_countPieces_5 1 rfl ?_
    refine x_bipush (v := 36) (pc := 7) K dX0_countPieces_7 (by decide) ?_
    refine x_icmp_ge (pc := 9) K dX0_countPieces_9 (tgt := 35) (by decide) (fun c9 => ?_) (fun c9 => ?_)
    · have h := h.1 c9
      refine x_keep [false, true] rfl ?_
      exact k0 x4 h
    · have h := h.2 c9
      refine x_lload_n (pc := 12) K dX0_countPieces_12 0 rfl rfl ?_
      refine x_lconst (v := 0) (pc := 13) K dX0_countPieces_13 (by decide) ?_
      refine x_lcmp (pc := 14) K dX0_countPieces_14 ?_
      refine x_if_eq (pc := 15) K dX0_countPieces_15 (tgt := 35) (by decide) (fun c9 => ?_) (fun c9 => ?_)
      · have h := h.1 c9
        refine x_keep [false, true] rfl ?_
        exact k0 x4 h
      · have h := h.2 c9
        refine x_lload_n (pc := 18) K dX0_countPieces_18 0 rfl rfl ?_
        refine x_lload_n (pc := 19) K dX0_countPieces_19 0 rfl rfl ?_
        refine x_pcallSl (pc := 20) (n := 1) K (c_X0_pieceIn l D cI cJ cZ cA x2 _ h) rfl rfl gX0_countPieces_X0_pieceIn rfl (by decide +kernel) ⟨Nat.le_of_ble_eq_true rfl, Nat.le_of_ble_eq_true rfl⟩ rfl (av := [.long x2]) rfl (Nat.le_of_ble_eq_true rfl) dX0_countPieces_20 ⟨Nat.le_of_ble_eq_true rfl, Nat.le_of_ble_eq_true rfl⟩ (fun r1 u9 h => ?_)
        refine x_ldc2 (pc := 23) (v := (-1)) K kX0_countPieces_0 dX0_countPieces_23 ?_
        refine x_lxor (pc := 26) K dX0_countPieces_26 ?_
        refine x_land (pc := 27) K dX0_countPieces_27 ?_
        obtain ⟨y2, ey2, h⟩ := xl_o h
        refine x_topl ey2 ?_
        clear ey2
        refine x_lstore_n (lv' := [(2, .long y2), (4, .int x4)]) (pc := 28) K dX0_countPieces_28 rfl (by decide) rfl ?_
        refine x_iinc (v := x4 + 1) (lv' := [(2, .long y2), (4, .int (x4 + 1))]) (pc := 29) K dX0_countPieces_29 (k := 1) rfl rfl (by decide) rfl ?_
        refine x_goto (pc := 32) K dX0_countPieces_32 (tgt := 5) (by decide) ?_
        exact ih y2 (x4 + 1) h k0
set_option maxHeartbeats 4000000 in
set_option maxRecDepth 100000 in
theorem c_X0_countPieces (l : Launch) (D : va_G) (cI cJ cZ cA : ClassId) (p0 : Int64) (P : Int32 → Prop) (h : q_X0_countPieces p0 P) : xMi l yX0_countPieces wsX0_countPieces rm_X0_countPieces D vwCl (xtys cI cJ cZ cA) [] [.long p0] (σ := Unit) (fun _ => []) (fun r _ => P r) := by
  refine xMi_of (cc := cX0_countPieces) (maxL := 5) (by decide) rfl (Nat.le_of_ble_eq_true rfl) ?_
  intro X K hE
  have K : xk X l rm_X0_countPieces D vwCl (xtys cI cJ cZ cA) cX0_countPieces RX0 wsX0_countPieces 5 := K
  unfold q_X0_countPieces at h
  refine x_lload_n (pc := 0) K dX0_countPieces_0 0 rfl rfl ?_
  refine x_lstore_n (lv' := [(0, .long p0), (2, .long p0)]) (pc := 1) K dX0_countPieces_1 rfl (by decide) rfl ?_
  refine x_iconst (v := 0) (pc := 2) K dX0_countPieces_2 (by decide) ?_
  refine x_istore (lv' := [(0, .long p0), (2, .long p0), (4, .int 0)]) (pc := 3) K dX0_countPieces_3 (by decide) rfl ?_
  refine x_keep [false, true, true] rfl ?_
  obtain ⟨n3, h⟩ := h
  refine w_X0_countPieces_L5 K _ n3 p0 0 h (fun v4 h => ?_)
  refine x_iload (pc := 35) K dX0_countPieces_35 0 rfl ?_
  exact hE v4 () _ _ h dX0_countPieces_37
abbrev rm_X0_block : Room := { frames := 8, cells := 0, slots := 0, locals := 120 }
def q_X0_block_L15 (u3 : Int32) (u6 : Int32) (P0 : Int64 → Prop) : Nat → Int64 → Int32 → Prop
  | 0, _, _ => False
  | n + 1, x4, x7 => ((u3 < x7 → P0 x4) ∧ (¬ u3 < x7 → xl (x4 ||| (xlshl 1 ((u6 * 6) + x7))) (fun y1 => q_X0_block_L15 u3 u6 P0 n y1 (x7 + 1))))
def q_X0_block_L6 (u1 : Int32) (u2 : Int32) (u3 : Int32) (P0 : Int64 → Prop) : Nat → Int64 → Int32 → Prop
  | 0, _, _ => False
  | n + 1, x4, x6 => ((u2 < x6 → P0 x4) ∧ (¬ u2 < x6 → (∃ n2 : Nat, q_X0_block_L15 u3 x6 (fun (v3 : Int64) => q_X0_block_L6 u1 u2 u3 P0 n v3 (x6 + 1)) n2 x4 u1)))
def q_X0_block (p0 : Int32) (p1 : Int32) (p2 : Int32) (p3 : Int32) (P : Int64 → Prop) : Prop := (∃ n4 : Nat, q_X0_block_L6 p1 p2 p3 (fun (v5 : Int64) => P v5) n4 0 p0)
set_option maxHeartbeats 4000000 in
set_option maxRecDepth 100000 in
theorem w_X0_block_L15 {X : xC} {l : Launch} {D : va_G} {cI cJ cZ cA : ClassId} (K : xk X l rm_X0_block D vwCl (xtys cI cJ cZ cA) cX0_block RX0 wsX0_block 8) (u1 : Int32) (u2 : Int32) (u3 : Int32) (u6 : Int32) (P0 : Int64 → Prop) : ∀ (n : Nat) (x4 : Int64) (x7 : Int32), q_X0_block_L15 u3 u6 P0 n x4 x7 → (∀ (z0 : Int64), P0 z0 → xw X 0 0 42 [(1, .int u1), (2, .int u2), (3, .int u3), (4, .long z0), (6, .int u6)] [] []) → xw X 0 0 15 [(1, .int u1), (2, .int u2), (3, .int u3), (4, .long x4), (6, .int u6), (7, .int x7)] [] [] := by
  intro n
  induction n with
  | zero =>
    intro x4 x7 h
    rw [q_X0_block_L15] at h
    exact h.elim
  | succ n ih =>
    intro x4 x7 h k0
    rw [q_X0_block_L15] at h
    refine x_iload (pc := 15) K dX0_block_15 5 rfl ?_
    refine x_iload_n (pc := 17) K dX0_block_17 2 rfl rfl ?_
    refine x_icmp_gt (pc := 18) K dX0_block_18 (tgt := 42) (by decide) (fun c9 => ?_) (fun c9 => ?_)
    · have h := h.1 c9
      refine x_keep [true, true, true, true, true, false] rfl ?_
      exact k0 x4 h
    · have h := h.2 c9
      refine x_lload (pc := 21) K dX0_block_21 3 rfl ?_
      refine x_lconst (v := 1) (pc := 23) K dX0_block_23 (by decide) ?_
      refine x_iload (pc := 24) K dX0_block_24 4 rfl ?_
      refine x_bipush (v := 6) (pc := 26) K dX0_block_26 (by decide) ?_
      refine x_imul (pc := 28) K dX0_block_28 ?_
      refine x_iload (pc := 29) K dX0_block_29 5 rfl ?_
      refine x_iadd (pc := 31) K dX0_block_31 ?_
      refine x_lshl (pc := 32) K dX0_block_32 ?_
      refine x_lor (pc := 33) K dX0_block_33 ?_
      obtain ⟨y1, ey1, h⟩ := xl_o h
      refine x_topl ey1 ?_
      clear ey1
      refine x_lstore (lv' := [(1, .int u1), (2, .int u2), (3, .int u3), (4, .long y1), (6, .int u6), (7, .int x7)]) (pc := 34) K dX0_block_34 (by decide) rfl ?_
      refine x_iinc (v := x7 + 1) (lv' := [(1, .int u1), (2, .int u2), (3, .int u3), (4, .long y1), (6, .int u6), (7, .int (x7 + 1))]) (pc := 36) K dX0_block_36 (k := 5) rfl rfl (by decide) rfl ?_
      refine x_goto (pc := 39) K dX0_block_39 (tgt := 15) (by decide) ?_
      exact ih y1 (x7 + 1) h k0
set_option maxHeartbeats 4000000 in
set_option maxRecDepth 100000 in
theorem w_X0_block_L6 {X : xC} {l : Launch} {D : va_G} {cI cJ cZ cA : ClassId} (K : xk X l rm_X0_block D vwCl (xtys cI cJ cZ cA) cX0_block RX0 wsX0_block 8) (u1 : Int32) (u2 : Int32) (u3 : Int32) (P0 : Int64 → Prop) : ∀ (n : Nat) (x4 : Int64) (x6 : Int32), q_X0_block_L6 u1 u2 u3 P0 n x4 x6 → (∀ (z0 : Int64), P0 z0 → xw X 0 0 48 [(4, .long z0)] [] []) → xw X 0 0 6 [(1, .int u1), (2, .int u2), (3, .int u3), (4, .long x4), (6, .int x6)] [] [] := by
  intro n
  induction n with
  | zero =>
    intro x4 x6 h
    rw [q_X0_block_L6] at h
    exact h.elim
  | succ n ih =>
    intro x4 x6 h k0
    rw [q_X0_block_L6] at h
    refine x_iload (pc := 6) K dX0_block_6 4 rfl ?_
    refine x_iload_n (pc := 8) K dX0_block_8 1 rfl rfl ?_
    refine x_icmp_gt (pc := 9) K dX0_block_9 (tgt := 48) (by decide) (fun c9 => ?_) (fun c9 => ?_)
    · have h := h.1 c9
      refine x_keep [false, false, false, true, false] rfl ?_
      exact k0 x4 h
    · have h := h.2 c9
      refine x_iload_n (pc := 12) K dX0_block_12 0 rfl rfl ?_
      refine x_istore (lv' := [(1, .int u1), (2, .int u2), (3, .int u3), (4, .long x4), (6, .int x6), (7, .int u1)]) (pc := 13) K dX0_block_13 (by decide) rfl ?_
      obtain ⟨n2, h⟩ := h
      refine w_X0_block_L15 K u1 u2 u3 x6 _ n2 x4 u1 h (fun v3 h => ?_)
      refine x_iinc (v := x6 + 1) (lv' := [(1, .int u1), (2, .int u2), (3, .int u3), (4, .long v3), (6, .int (x6 + 1))]) (pc := 42) K dX0_block_42 (k := 4) rfl rfl (by decide) rfl ?_
      refine x_goto (pc := 45) K dX0_block_45 (tgt := 6) (by decide) ?_
      exact ih v3 (x6 + 1) h k0
set_option maxHeartbeats 4000000 in
set_option maxRecDepth 100000 in
theorem c_X0_block (l : Launch) (D : va_G) (cI cJ cZ cA : ClassId) (p0 : Int32) (p1 : Int32) (p2 : Int32) (p3 : Int32) (P : Int64 → Prop) (h : q_X0_block p0 p1 p2 p3 P) : xMl l yX0_block wsX0_block rm_X0_block D vwCl (xtys cI cJ cZ cA) [] [.int p0, .int p1, .int p2, .int p3] (σ := Unit) (fun _ => []) (fun r _ => P r) := by
  refine xMl_of (cc := cX0_block) (maxL := 8) (by decide) rfl (Nat.le_of_ble_eq_true rfl) ?_
  intro X K hE
  have K : xk X l rm_X0_block D vwCl (xtys cI cJ cZ cA) cX0_block RX0 wsX0_block 8 := K
  unfold q_X0_block at h
  refine x_lconst (v := 0) (pc := 0) K dX0_block_0 (by decide) ?_
  refine x_lstore (lv' := [(0, .int p0), (1, .int p1), (2, .int p2), (3, .int p3), (4, .long 0)]) (pc := 1) K dX0_block_1 (by decide) rfl ?_
  refine x_iload_n (pc := 3) K dX0_block_3 0 rfl rfl ?_
  refine x_istore (lv' := [(0, .int p0), (1, .int p1), (2, .int p2), (3, .int p3), (4, .long 0), (6, .int p0)]) (pc := 4) K dX0_block_4 (by decide) rfl ?_
  refine x_keep [false, true, true, true, true, true] rfl ?_
  obtain ⟨n4, h⟩ := h
  refine w_X0_block_L6 K p1 p2 p3 _ n4 0 p0 h (fun v5 h => ?_)
  refine x_lload (pc := 48) K dX0_block_48 0 rfl ?_
  exact hE v5 () _ _ h dX0_block_50
abbrev rm_X0_wearing : Room := { frames := 8, cells := 0, slots := 0, locals := 120 }
theorem inX0_wearing : ∀ w ∈ u_ws RX0 TX0 8, w ∈ wsX0_wearing := by decide +kernel
theorem kX0_wearing_0 : Cond.fieldLink RX0 21 "FourTints" "worn" "[I" ∈ wsX0_wearing := by decide +kernel
def q_X0_wearing_L4 (u1 : Int32) (worn : Nat → Int32) (P0 : Int32 → Prop) : Nat → Int32 → Int32 → Prop
  | 0, _, _ => False
  | n + 1, x2, x3 => ((10 ≤ x3 → P0 x2) ∧ (¬ 10 ≤ x3 → xin x3 10 = true ∧ ((¬ (worn x3.toNatClampNeg) = u1 → q_X0_wearing_L4 u1 worn P0 n x2 (x3 + 1)) ∧ ((worn x3.toNatClampNeg) = u1 → xl (x2 ||| (1 <<< (x3 &&& 31))) (fun y1 => q_X0_wearing_L4 u1 worn P0 n y1 (x3 + 1))))))
def q_X0_wearing (p1 : Int32) (worn : Nat → Int32) (P : Int32 → Prop) : Prop := (∃ n2 : Nat, q_X0_wearing_L4 p1 worn (fun (v3 : Int32) => P v3) n2 0 0)
set_option maxHeartbeats 4000000 in
set_option maxRecDepth 100000 in
theorem w_X0_wearing_L4 {X : xC} {l : Launch} {D : va_G} {cI cJ cZ cA : ClassId} {V : Nat → Nat} (K : xk X l rm_X0_wearing D vwCl (xtys cI cJ cZ cA) cX0_wearing RX0 wsX0_wearing 4) (u1 : Int32) (land : Nat → Int64) (there : Int32) (near : Nat → Int32) (worn : Nat → Int32) (trial : Nat → Int32) (fits : Nat → Int32) (ways : Nat → Int64) (P0 : Int32 → Prop) : ∀ (n : Nat) (x2 : Int32) (x3 : Int32), q_X0_wearing_L4 u1 worn P0 n x2 x3 → (∀ (z0 : Int32), P0 z0 → xw X 0 0 32 [(2, .int z0)] [] (wX0 cI cJ cZ cA V land there near worn trial fits ways)) → xw X 0 0 4 [(0, .ref (V 0)), (1, .int u1), (2, .int x2), (3, .int x3)] [] (wX0 cI cJ cZ cA V land there near worn trial fits ways) := by
  intro n
  induction n with
  | zero =>
    intro x2 x3 h
    rw [q_X0_wearing_L4] at h
    exact h.elim
  | succ n ih =>
    intro x2 x3 h k0
    rw [q_X0_wearing_L4] at h
    refine x_iload_n (pc := 4) K dX0_wearing_4 3 rfl rfl ?_
    refine x_bipush (v := 10) (pc := 5) K dX0_wearing_5 (by decide) ?_
    refine x_icmp_ge (pc := 7) K dX0_wearing_7 (tgt := 32) (by decide) (fun c9 => ?_) (fun c9 => ?_)
    · have h := h.1 c9
      refine x_keep [false, false, true, false] rfl ?_
      exact k0 x2 h
    · have h := h.2 c9
      refine x_aload_n (pc := 10) K dX0_wearing_10 0 rfl rfl ?_
      refine x_get (pc := 11) (ci := 0) (C := RX0) (T := TX0) (N := 8) K (inX0_wearing) 0 rfl rfl 3 (by decide) kX0_wearing_0 rfl rfl dX0_wearing_11 ?_
      refine x_iload_n (pc := 14) K dX0_wearing_14 3 rfl rfl ?_
      have g9 := h.1
      replace h := h.2
      refine x_iald (pc := 15) K 3 0 rfl rfl g9 dX0_wearing_15 ?_
      clear g9
      refine x_iload_n (pc := 16) K dX0_wearing_16 1 rfl rfl ?_
      refine x_icmp_ne (pc := 17) K dX0_wearing_17 (tgt := 26) (by decide) (fun c9 => ?_) (fun c9 => ?_)
      · have h := h.1 c9
        refine x_iinc (v := x3 + 1) (lv' := [(0, .ref (V 0)), (1, .int u1), (2, .int x2), (3, .int (x3 + 1))]) (pc := 26) K dX0_wearing_26 (k := 3) rfl rfl (by decide) rfl ?_
        refine x_goto (pc := 29) K dX0_wearing_29 (tgt := 4) (by decide) ?_
        exact ih x2 (x3 + 1) h k0
      · have h := h.2 c9
        refine x_iload_n (pc := 20) K dX0_wearing_20 2 rfl rfl ?_
        refine x_iconst (v := 1) (pc := 21) K dX0_wearing_21 (by decide) ?_
        refine x_iload_n (pc := 22) K dX0_wearing_22 3 rfl rfl ?_
        refine x_ishl (pc := 23) K dX0_wearing_23 ?_
        refine x_ior (pc := 24) K dX0_wearing_24 ?_
        obtain ⟨y1, ey1, h⟩ := xl_o h
        refine x_topi ey1 ?_
        clear ey1
        refine x_istore_n (lv' := [(0, .ref (V 0)), (1, .int u1), (2, .int y1), (3, .int x3)]) (pc := 25) K dX0_wearing_25 rfl (by decide) rfl ?_
        refine x_iinc (v := x3 + 1) (lv' := [(0, .ref (V 0)), (1, .int u1), (2, .int y1), (3, .int (x3 + 1))]) (pc := 26) K dX0_wearing_26 (k := 3) rfl rfl (by decide) rfl ?_
        refine x_goto (pc := 29) K dX0_wearing_29 (tgt := 4) (by decide) ?_
        exact ih y1 (x3 + 1) h k0
set_option maxHeartbeats 4000000 in
set_option maxRecDepth 100000 in
theorem c_X0_wearing (l : Launch) (D : va_G) (cI cJ cZ cA : ClassId) (V : Nat → Nat) (p1 : Int32) (land : Nat → Int64) (there : Int32) (near : Nat → Int32) (worn : Nat → Int32) (trial : Nat → Int32) (fits : Nat → Int32) (ways : Nat → Int64) (P : Int32 → Prop) (h : q_X0_wearing p1 worn P) : xMi l yX0_wearing wsX0_wearing rm_X0_wearing D vwCl (xtys cI cJ cZ cA) (wX0 cI cJ cZ cA V land there near worn trial fits ways) [.ref (V 0), .int p1] (σ := Unit) (fun _ => (wX0 cI cJ cZ cA V land there near worn trial fits ways)) (fun r _ => P r) := by
  refine xMi_of (cc := cX0_wearing) (maxL := 4) (by decide) rfl (Nat.le_of_ble_eq_true rfl) ?_
  intro X K hE
  have K : xk X l rm_X0_wearing D vwCl (xtys cI cJ cZ cA) cX0_wearing RX0 wsX0_wearing 4 := K
  unfold q_X0_wearing at h
  refine x_iconst (v := 0) (pc := 0) K dX0_wearing_0 (by decide) ?_
  refine x_istore_n (lv' := [(0, .ref (V 0)), (1, .int p1), (2, .int 0)]) (pc := 1) K dX0_wearing_1 rfl (by decide) rfl ?_
  refine x_iconst (v := 0) (pc := 2) K dX0_wearing_2 (by decide) ?_
  refine x_istore_n (lv' := [(0, .ref (V 0)), (1, .int p1), (2, .int 0), (3, .int 0)]) (pc := 3) K dX0_wearing_3 rfl (by decide) rfl ?_
  obtain ⟨n2, h⟩ := h
  refine w_X0_wearing_L4 K p1 land there near worn trial fits ways _ n2 0 0 h (fun v3 h => ?_)
  refine x_iload_n (pc := 32) K dX0_wearing_32 0 rfl rfl ?_
  exact hE v3 () _ _ h dX0_wearing_33
end
section
abbrev rm_X0_ownerOf : Room := { frames := 8, cells := 0, slots := 0, locals := 120 }
theorem inX0_ownerOf : ∀ w ∈ u_ws RX0 TX0 8, w ∈ wsX0_ownerOf := by decide +kernel
theorem kX0_ownerOf_0 : Cond.fieldLink RX0 9 "FourTints" "land" "[J" ∈ wsX0_ownerOf := by decide +kernel
def q_X0_ownerOf_L2 (u1 : Int64) (land : Nat → Int64) (P0 : Prop) (P1 : Int32 → Prop) : Nat → Int32 → Prop
  | 0, _ => False
  | n + 1, x3 => ((10 ≤ x3 → P0) ∧ (¬ 10 ≤ x3 → xin x3 10 = true ∧ (((lg_cmp ((land x3.toNatClampNeg) &&& u1) 0) = 0 → q_X0_ownerOf_L2 u1 land P0 P1 n (x3 + 1)) ∧ (¬ (lg_cmp ((land x3.toNatClampNeg) &&& u1) 0) = 0 → P1 x3))))
def q_X0_ownerOf (p1 : Int64) (land : Nat → Int64) (P : Int32 → Prop) : Prop := (∃ n1 : Nat, q_X0_ownerOf_L2 p1 land (P (-1)) (fun (v2 : Int32) => P v2) n1 0)
set_option maxHeartbeats 4000000 in
set_option maxRecDepth 100000 in
theorem w_X0_ownerOf_L2 {X : xC} {l : Launch} {D : va_G} {cI cJ cZ cA : ClassId} {V : Nat → Nat} (K : xk X l rm_X0_ownerOf D vwCl (xtys cI cJ cZ cA) cX0_ownerOf RX0 wsX0_ownerOf 4) (u1 : Int64) (land : Nat → Int64) (there : Int32) (near : Nat → Int32) (worn : Nat → Int32) (trial : Nat → Int32) (fits : Nat → Int32) (ways : Nat → Int64) (P0 : Prop) (P1 : Int32 → Prop) : ∀ (n : Nat) (x3 : Int32), q_X0_ownerOf_L2 u1 land P0 P1 n x3 → (P0 → xw X 0 0 29 [] [] (wX0 cI cJ cZ cA V land there near worn trial fits ways)) → (∀ (z0 : Int32), P1 z0 → xw X 0 0 21 [(3, .int z0)] [] (wX0 cI cJ cZ cA V land there near worn trial fits ways)) → xw X 0 0 2 [(0, .ref (V 0)), (1, .long u1), (3, .int x3)] [] (wX0 cI cJ cZ cA V land there near worn trial fits ways) := by
  intro n
  induction n with
  | zero =>
    intro x3 h
    rw [q_X0_ownerOf_L2] at h
    exact h.elim
  | succ n ih =>
    intro x3 h k0 k1
    rw [q_X0_ownerOf_L2] at h
    refine x_iload_n (pc := 2) K dX0_ownerOf_2 2 rfl rfl ?_
    refine x_bipush (v := 10) (pc := 3) K dX0_ownerOf_3 (by decide) ?_
    refine x_icmp_ge (pc := 5) K dX0_ownerOf_5 (tgt := 29) (by decide) (fun c9 => ?_) (fun c9 => ?_)
    · have h := h.1 c9
      refine x_keep [false, false, false] rfl ?_
      exact k0  h
    · have h := h.2 c9
      refine x_aload_n (pc := 8) K dX0_ownerOf_8 0 rfl rfl ?_
      refine x_get (pc := 9) (ci := 0) (C := RX0) (T := TX0) (N := 8) K (inX0_ownerOf) 0 rfl rfl 0 (by decide) kX0_ownerOf_0 rfl rfl dX0_ownerOf_9 ?_
      refine x_iload_n (pc := 12) K dX0_ownerOf_12 2 rfl rfl ?_
      have g9 := h.1
      replace h := h.2
      refine x_lald (pc := 13) K 1 1 rfl rfl g9 dX0_ownerOf_13 ?_
      clear g9
      refine x_lload_n (pc := 14) K dX0_ownerOf_14 1 rfl rfl ?_
      refine x_land (pc := 15) K dX0_ownerOf_15 ?_
      refine x_lconst (v := 0) (pc := 16) K dX0_ownerOf_16 (by decide) ?_
      refine x_lcmp (pc := 17) K dX0_ownerOf_17 ?_
      refine x_if_eq (pc := 18) K dX0_ownerOf_18 (tgt := 23) (by decide) (fun c9 => ?_) (fun c9 => ?_)
      · have h := h.1 c9
        refine x_iinc (v := x3 + 1) (lv' := [(0, .ref (V 0)), (1, .long u1), (3, .int (x3 + 1))]) (pc := 23) K dX0_ownerOf_23 (k := 2) rfl rfl (by decide) rfl ?_
        refine x_goto (pc := 26) K dX0_ownerOf_26 (tgt := 2) (by decide) ?_
        exact ih (x3 + 1) h k0 k1
      · have h := h.2 c9
        refine x_keep [false, false, true] rfl ?_
        exact k1 x3 h
set_option maxHeartbeats 4000000 in
set_option maxRecDepth 100000 in
theorem c_X0_ownerOf (l : Launch) (D : va_G) (cI cJ cZ cA : ClassId) (V : Nat → Nat) (p1 : Int64) (land : Nat → Int64) (there : Int32) (near : Nat → Int32) (worn : Nat → Int32) (trial : Nat → Int32) (fits : Nat → Int32) (ways : Nat → Int64) (P : Int32 → Prop) (h : q_X0_ownerOf p1 land P) : xMi l yX0_ownerOf wsX0_ownerOf rm_X0_ownerOf D vwCl (xtys cI cJ cZ cA) (wX0 cI cJ cZ cA V land there near worn trial fits ways) [.ref (V 0), .long p1] (σ := Unit) (fun _ => (wX0 cI cJ cZ cA V land there near worn trial fits ways)) (fun r _ => P r) := by
  refine xMi_of (cc := cX0_ownerOf) (maxL := 4) (by decide) rfl (Nat.le_of_ble_eq_true rfl) ?_
  intro X K hE
  have K : xk X l rm_X0_ownerOf D vwCl (xtys cI cJ cZ cA) cX0_ownerOf RX0 wsX0_ownerOf 4 := K
  unfold q_X0_ownerOf at h
  refine x_iconst (v := 0) (pc := 0) K dX0_ownerOf_0 (by decide) ?_
  refine x_istore_n (lv' := [(0, .ref (V 0)), (1, .long p1), (3, .int 0)]) (pc := 1) K dX0_ownerOf_1 rfl (by decide) rfl ?_
  obtain ⟨n1, h⟩ := h
  refine w_X0_ownerOf_L2 K p1 land there near worn trial fits ways _ _ n1 0 h (fun  h => ?_) (fun v2 h => ?_)
  · refine x_iconst (v := (-1)) (pc := 29) K dX0_ownerOf_29 (by decide) ?_
    exact hE (-1) () _ _ h dX0_ownerOf_30
  · refine x_iload_n (pc := 21) K dX0_ownerOf_21 0 rfl rfl ?_
    exact hE v2 () _ _ h dX0_ownerOf_22
abbrev rm_X0_cellsOf : Room := { frames := 8, cells := 0, slots := 0, locals := 120 }
theorem inX0_cellsOf : ∀ w ∈ u_ws RX0 TX0 8, w ∈ wsX0_cellsOf := by decide +kernel
theorem kX0_cellsOf_0 : Cond.constantLong RX0 110 (68719476735) ∈ wsX0_cellsOf := by decide +kernel
theorem kX0_cellsOf_1 : Cond.fieldLink RX0 9 "FourTints" "land" "[J" ∈ wsX0_cellsOf := by decide +kernel
theorem kX0_cellsOf_2 : Cond.constantLong RX0 70 (-1) ∈ wsX0_cellsOf := by decide +kernel
def q_X0_cellsOf_L24 (land : Nat → Int64) (P0 : Int64 → Prop) : Nat → Int64 → Int32 → Prop
  | 0, _, _ => False
  | n + 1, x2, x4 => ((10 ≤ x4 → P0 x2) ∧ (¬ 10 ≤ x4 → xin x4 10 = true ∧ xl (x2 &&& ((land x4.toNatClampNeg) ^^^ (-1))) (fun y2 => q_X0_cellsOf_L24 land P0 n y2 (x4 + 1))))
def q_X0_cellsOf (p1 : Int32) (land : Nat → Int64) (P : Int64 → Prop) : Prop := xj0 ((∃ n3 : Nat, q_X0_cellsOf_L24 land (fun (v4 : Int64) => P v4) n3 68719476735 0)) (fun (J1 : Prop) => ((p1 < 0 → J1) ∧ (¬ p1 < 0 → ((10 ≤ p1 → J1) ∧ (¬ 10 ≤ p1 → xin p1 10 = true ∧ P (land p1.toNatClampNeg))))))
set_option maxHeartbeats 4000000 in
set_option maxRecDepth 100000 in
theorem w_X0_cellsOf_L24 {X : xC} {l : Launch} {D : va_G} {cI cJ cZ cA : ClassId} {V : Nat → Nat} (K : xk X l rm_X0_cellsOf D vwCl (xtys cI cJ cZ cA) cX0_cellsOf RX0 wsX0_cellsOf 5) (land : Nat → Int64) (there : Int32) (near : Nat → Int32) (worn : Nat → Int32) (trial : Nat → Int32) (fits : Nat → Int32) (ways : Nat → Int64) (P0 : Int64 → Prop) : ∀ (n : Nat) (x2 : Int64) (x4 : Int32), q_X0_cellsOf_L24 land P0 n x2 x4 → (∀ (z0 : Int64), P0 z0 → xw X 0 0 51 [(2, .long z0)] [] (wX0 cI cJ cZ cA V land there near worn trial fits ways)) → xw X 0 0 24 [(0, .ref (V 0)), (2, .long x2), (4, .int x4)] [] (wX0 cI cJ cZ cA V land there near worn trial fits ways) := by
  intro n
  induction n with
  | zero =>
    intro x2 x4 h
    rw [q_X0_cellsOf_L24] at h
    exact h.elim
  | succ n ih =>
    intro x2 x4 h k0
    rw [q_X0_cellsOf_L24] at h
    refine x_iload (pc := 24) K dX0_cellsOf_24 2 rfl ?_
    refine x_bipush (v := 10) (pc := 26) K dX0_cellsOf_26 (by decide) ?_
    refine x_icmp_ge (pc := 28) K dX0_cellsOf_28 (tgt := 51) (by decide) (fun c9 => ?_) (fun c9 => ?_)
    · have h := h.1 c9
      refine x_keep [false, true, false] rfl ?_
      exact k0 x2 h
    · have h := h.2 c9
      refine x_lload_n (pc := 31) K dX0_cellsOf_31 1 rfl rfl ?_
      refine x_aload_n (pc := 32) K dX0_cellsOf_32 0 rfl rfl ?_
      refine x_get (pc := 33) (ci := 0) (C := RX0) (T := TX0) (N := 8) K (inX0_cellsOf) 0 rfl rfl 0 (by decide) kX0_cellsOf_1 rfl rfl dX0_cellsOf_33 ?_
      refine x_iload (pc := 36) K dX0_cellsOf_36 2 rfl ?_
      have g9 := h.1
      replace h := h.2
      refine x_lald (pc := 38) K 1 1 rfl rfl g9 dX0_cellsOf_38 ?_
      clear g9
      refine x_ldc2 (pc := 39) (v := (-1)) K kX0_cellsOf_2 dX0_cellsOf_39 ?_
      refine x_lxor (pc := 42) K dX0_cellsOf_42 ?_
      refine x_land (pc := 43) K dX0_cellsOf_43 ?_
      obtain ⟨y2, ey2, h⟩ := xl_o h
      refine x_topl ey2 ?_
      clear ey2
      refine x_lstore_n (lv' := [(0, .ref (V 0)), (2, .long y2), (4, .int x4)]) (pc := 44) K dX0_cellsOf_44 rfl (by decide) rfl ?_
      refine x_iinc (v := x4 + 1) (lv' := [(0, .ref (V 0)), (2, .long y2), (4, .int (x4 + 1))]) (pc := 45) K dX0_cellsOf_45 (k := 2) rfl rfl (by decide) rfl ?_
      refine x_goto (pc := 48) K dX0_cellsOf_48 (tgt := 24) (by decide) ?_
      exact ih y2 (x4 + 1) h k0
set_option maxHeartbeats 4000000 in
set_option maxRecDepth 100000 in
theorem c_X0_cellsOf (l : Launch) (D : va_G) (cI cJ cZ cA : ClassId) (V : Nat → Nat) (p1 : Int32) (land : Nat → Int64) (there : Int32) (near : Nat → Int32) (worn : Nat → Int32) (trial : Nat → Int32) (fits : Nat → Int32) (ways : Nat → Int64) (P : Int64 → Prop) (h : q_X0_cellsOf p1 land P) : xMl l yX0_cellsOf wsX0_cellsOf rm_X0_cellsOf D vwCl (xtys cI cJ cZ cA) (wX0 cI cJ cZ cA V land there near worn trial fits ways) [.ref (V 0), .int p1] (σ := Unit) (fun _ => (wX0 cI cJ cZ cA V land there near worn trial fits ways)) (fun r _ => P r) := by
  refine xMl_of (cc := cX0_cellsOf) (maxL := 5) (by decide) rfl (Nat.le_of_ble_eq_true rfl) ?_
  intro X K hE
  have K : xk X l rm_X0_cellsOf D vwCl (xtys cI cJ cZ cA) cX0_cellsOf RX0 wsX0_cellsOf 5 := K
  unfold q_X0_cellsOf at h
  refine x_iload_n (pc := 0) K dX0_cellsOf_0 1 rfl rfl ?_
  obtain ⟨J1, hJ1, h⟩ := xj0_o h
  have kJ1 : J1 → xw X 0 0 17 [(0, .ref (V 0))] [] (wX0 cI cJ cZ cA V land there near worn trial fits ways) := by
    intro  hj
    have h := hJ1  hj
    refine x_ldc2 (pc := 17) (v := 68719476735) K kX0_cellsOf_0 dX0_cellsOf_17 ?_
    refine x_lstore_n (lv' := [(0, .ref (V 0)), (2, .long 68719476735)]) (pc := 20) K dX0_cellsOf_20 rfl (by decide) rfl ?_
    refine x_iconst (v := 0) (pc := 21) K dX0_cellsOf_21 (by decide) ?_
    refine x_istore (lv' := [(0, .ref (V 0)), (2, .long 68719476735), (4, .int 0)]) (pc := 22) K dX0_cellsOf_22 (by decide) rfl ?_
    obtain ⟨n3, h⟩ := h
    refine w_X0_cellsOf_L24 K land there near worn trial fits ways _ n3 68719476735 0 h (fun v4 h => ?_)
    refine x_lload_n (pc := 51) K dX0_cellsOf_51 0 rfl rfl ?_
    exact hE v4 () _ _ h dX0_cellsOf_52
  refine x_if_lt (pc := 1) K dX0_cellsOf_1 (tgt := 17) (by decide) (fun c9 => ?_) (fun c9 => ?_)
  · have h := h.1 c9
    refine x_keep [true, false] rfl ?_
    exact kJ1  h
  · have h := h.2 c9
    refine x_iload_n (pc := 4) K dX0_cellsOf_4 1 rfl rfl ?_
    refine x_bipush (v := 10) (pc := 5) K dX0_cellsOf_5 (by decide) ?_
    refine x_icmp_ge (pc := 7) K dX0_cellsOf_7 (tgt := 17) (by decide) (fun c9 => ?_) (fun c9 => ?_)
    · have h := h.1 c9
      refine x_keep [true, false] rfl ?_
      exact kJ1  h
    · have h := h.2 c9
      refine x_aload_n (pc := 10) K dX0_cellsOf_10 0 rfl rfl ?_
      refine x_get (pc := 11) (ci := 0) (C := RX0) (T := TX0) (N := 8) K (inX0_cellsOf) 0 rfl rfl 0 (by decide) kX0_cellsOf_1 rfl rfl dX0_cellsOf_11 ?_
      refine x_iload_n (pc := 14) K dX0_cellsOf_14 1 rfl rfl ?_
      have g9 := h.1
      replace h := h.2
      refine x_lald (pc := 15) K 1 1 rfl rfl g9 dX0_cellsOf_15 ?_
      clear g9
      exact hE (land p1.toNatClampNeg) () _ _ h dX0_cellsOf_16
abbrev rm_X0_thoseIn : Room := { frames := 8, cells := 0, slots := 0, locals := 120 }
theorem inX0_thoseIn : ∀ w ∈ u_ws RX0 TX0 8, w ∈ wsX0_thoseIn := by decide +kernel
theorem kX0_thoseIn_0 : Cond.fieldLink RX0 9 "FourTints" "land" "[J" ∈ wsX0_thoseIn := by decide +kernel
def q_X0_thoseIn_L5 (u1 : Int64) (land : Nat → Int64) (P0 : Int32 → Prop) : Nat → Int32 → Int32 → Prop
  | 0, _, _ => False
  | n + 1, x3, x4 => ((10 ≤ x4 → P0 x3) ∧ (¬ 10 ≤ x4 → xin x4 10 = true ∧ (((lg_cmp ((land x4.toNatClampNeg) &&& u1) 0) = 0 → q_X0_thoseIn_L5 u1 land P0 n x3 (x4 + 1)) ∧ (¬ (lg_cmp ((land x4.toNatClampNeg) &&& u1) 0) = 0 → xl (x3 ||| (1 <<< (x4 &&& 31))) (fun y1 => q_X0_thoseIn_L5 u1 land P0 n y1 (x4 + 1))))))
def q_X0_thoseIn (p1 : Int64) (land : Nat → Int64) (P : Int32 → Prop) : Prop := (∃ n2 : Nat, q_X0_thoseIn_L5 p1 land (fun (v3 : Int32) => P v3) n2 0 0)
set_option maxHeartbeats 4000000 in
set_option maxRecDepth 100000 in
theorem w_X0_thoseIn_L5 {X : xC} {l : Launch} {D : va_G} {cI cJ cZ cA : ClassId} {V : Nat → Nat} (K : xk X l rm_X0_thoseIn D vwCl (xtys cI cJ cZ cA) cX0_thoseIn RX0 wsX0_thoseIn 5) (u1 : Int64) (land : Nat → Int64) (there : Int32) (near : Nat → Int32) (worn : Nat → Int32) (trial : Nat → Int32) (fits : Nat → Int32) (ways : Nat → Int64) (P0 : Int32 → Prop) : ∀ (n : Nat) (x3 : Int32) (x4 : Int32), q_X0_thoseIn_L5 u1 land P0 n x3 x4 → (∀ (z0 : Int32), P0 z0 → xw X 0 0 39 [(3, .int z0)] [] (wX0 cI cJ cZ cA V land there near worn trial fits ways)) → xw X 0 0 5 [(0, .ref (V 0)), (1, .long u1), (3, .int x3), (4, .int x4)] [] (wX0 cI cJ cZ cA V land there near worn trial fits ways) := by
  intro n
  induction n with
  | zero =>
    intro x3 x4 h
    rw [q_X0_thoseIn_L5] at h
    exact h.elim
  | succ n ih =>
    intro x3 x4 h k0
    rw [q_X0_thoseIn_L5] at h
    refine x_iload (pc := 5) K dX0_thoseIn_5 3 rfl ?_
    refine x_bipush (v := 10) (pc := 7) K dX0_thoseIn_7 (by decide) ?_
    refine x_icmp_ge (pc := 9) K dX0_thoseIn_9 (tgt := 39) (by decide) (fun c9 => ?_) (fun c9 => ?_)
    · have h := h.1 c9
      refine x_keep [false, false, true, false] rfl ?_
      exact k0 x3 h
    · have h := h.2 c9
      refine x_aload_n (pc := 12) K dX0_thoseIn_12 0 rfl rfl ?_
      refine x_get (pc := 13) (ci := 0) (C := RX0) (T := TX0) (N := 8) K (inX0_thoseIn) 0 rfl rfl 0 (by decide) kX0_thoseIn_0 rfl rfl dX0_thoseIn_13 ?_
      refine x_iload (pc := 16) K dX0_thoseIn_16 3 rfl ?_
      have g9 := h.1
      replace h := h.2
      refine x_lald (pc := 18) K 1 1 rfl rfl g9 dX0_thoseIn_18 ?_
      clear g9
      refine x_lload_n (pc := 19) K dX0_thoseIn_19 1 rfl rfl ?_
      refine x_land (pc := 20) K dX0_thoseIn_20 ?_
      refine x_lconst (v := 0) (pc := 21) K dX0_thoseIn_21 (by decide) ?_
      refine x_lcmp (pc := 22) K dX0_thoseIn_22 ?_
      refine x_if_eq (pc := 23) K dX0_thoseIn_23 (tgt := 33) (by decide) (fun c9 => ?_) (fun c9 => ?_)
      · have h := h.1 c9
        refine x_iinc (v := x4 + 1) (lv' := [(0, .ref (V 0)), (1, .long u1), (3, .int x3), (4, .int (x4 + 1))]) (pc := 33) K dX0_thoseIn_33 (k := 3) rfl rfl (by decide) rfl ?_
        refine x_goto (pc := 36) K dX0_thoseIn_36 (tgt := 5) (by decide) ?_
        exact ih x3 (x4 + 1) h k0
      · have h := h.2 c9
        refine x_iload_n (pc := 26) K dX0_thoseIn_26 2 rfl rfl ?_
        refine x_iconst (v := 1) (pc := 27) K dX0_thoseIn_27 (by decide) ?_
        refine x_iload (pc := 28) K dX0_thoseIn_28 3 rfl ?_
        refine x_ishl (pc := 30) K dX0_thoseIn_30 ?_
        refine x_ior (pc := 31) K dX0_thoseIn_31 ?_
        obtain ⟨y1, ey1, h⟩ := xl_o h
        refine x_topi ey1 ?_
        clear ey1
        refine x_istore_n (lv' := [(0, .ref (V 0)), (1, .long u1), (3, .int y1), (4, .int x4)]) (pc := 32) K dX0_thoseIn_32 rfl (by decide) rfl ?_
        refine x_iinc (v := x4 + 1) (lv' := [(0, .ref (V 0)), (1, .long u1), (3, .int y1), (4, .int (x4 + 1))]) (pc := 33) K dX0_thoseIn_33 (k := 3) rfl rfl (by decide) rfl ?_
        refine x_goto (pc := 36) K dX0_thoseIn_36 (tgt := 5) (by decide) ?_
        exact ih y1 (x4 + 1) h k0
set_option maxHeartbeats 4000000 in
set_option maxRecDepth 100000 in
theorem c_X0_thoseIn (l : Launch) (D : va_G) (cI cJ cZ cA : ClassId) (V : Nat → Nat) (p1 : Int64) (land : Nat → Int64) (there : Int32) (near : Nat → Int32) (worn : Nat → Int32) (trial : Nat → Int32) (fits : Nat → Int32) (ways : Nat → Int64) (P : Int32 → Prop) (h : q_X0_thoseIn p1 land P) : xMi l yX0_thoseIn wsX0_thoseIn rm_X0_thoseIn D vwCl (xtys cI cJ cZ cA) (wX0 cI cJ cZ cA V land there near worn trial fits ways) [.ref (V 0), .long p1] (σ := Unit) (fun _ => (wX0 cI cJ cZ cA V land there near worn trial fits ways)) (fun r _ => P r) := by
  refine xMi_of (cc := cX0_thoseIn) (maxL := 5) (by decide) rfl (Nat.le_of_ble_eq_true rfl) ?_
  intro X K hE
  have K : xk X l rm_X0_thoseIn D vwCl (xtys cI cJ cZ cA) cX0_thoseIn RX0 wsX0_thoseIn 5 := K
  unfold q_X0_thoseIn at h
  refine x_iconst (v := 0) (pc := 0) K dX0_thoseIn_0 (by decide) ?_
  refine x_istore_n (lv' := [(0, .ref (V 0)), (1, .long p1), (3, .int 0)]) (pc := 1) K dX0_thoseIn_1 rfl (by decide) rfl ?_
  refine x_iconst (v := 0) (pc := 2) K dX0_thoseIn_2 (by decide) ?_
  refine x_istore (lv' := [(0, .ref (V 0)), (1, .long p1), (3, .int 0), (4, .int 0)]) (pc := 3) K dX0_thoseIn_3 (by decide) rfl ?_
  obtain ⟨n2, h⟩ := h
  refine w_X0_thoseIn_L5 K p1 land there near worn trial fits ways _ n2 0 0 h (fun v3 h => ?_)
  refine x_iload_n (pc := 39) K dX0_thoseIn_39 0 rfl rfl ?_
  exact hE v3 () _ _ h dX0_thoseIn_40
abbrev rm_X0_findNeighbours : Room := { frames := 10, cells := 0, slots := 0, locals := 200 }
theorem inX0_findNeighbours : ∀ w ∈ u_ws RX0 TX0 8, w ∈ wsX0_findNeighbours := by decide +kernel
theorem kX0_findNeighbours_0 : Cond.fieldLink RX0 13 "FourTints" "there" "I" ∈ wsX0_findNeighbours := by decide +kernel
theorem kX0_findNeighbours_1 : Cond.fieldLink RX0 9 "FourTints" "land" "[J" ∈ wsX0_findNeighbours := by decide +kernel
theorem kX0_findNeighbours_2 : Cond.fieldLink RX0 17 "FourTints" "near" "[I" ∈ wsX0_findNeighbours := by decide +kernel
def q_X0_findNeighbours_L7 (land : Nat → Int64) (P0 : Int32 → (Nat → Int32) → Prop) : Nat → Int32 → Int32 → (Nat → Int32) → Prop
  | 0, _, _, _ => False
  | n + 1, x1, there, near => ((10 ≤ x1 → P0 there near) ∧ (¬ 10 ≤ x1 → xin x1 10 = true ∧ xj1 (fun (v2 : Int32) => xin x1 10 = true ∧ q_X0_spread (land x1.toNatClampNeg) (fun (r3 : Int64) => q_X0_thoseIn r3 land (fun (r4 : Int32) => xin x1 10 = true ∧ q_X0_findNeighbours_L7 land P0 n (x1 + 1) v2 (upd near x1.toNatClampNeg (r4 &&& ((1 <<< (x1 &&& 31)) ^^^ (-1))))))) (fun (J1 : Int32 → Prop) => (((lg_cmp (land x1.toNatClampNeg) 0) = 0 → J1 there) ∧ (¬ (lg_cmp (land x1.toNatClampNeg) 0) = 0 → J1 (there ||| (1 <<< (x1 &&& 31))))))))
def q_X0_findNeighbours (land : Nat → Int64) (near : Nat → Int32) (P : Int32 → (Nat → Int32) → Prop) : Prop := (∃ n6 : Nat, q_X0_findNeighbours_L7 land (fun (v7 : Int32) (v8 : Nat → Int32) => P v7 v8) n6 0 0 near)
set_option maxHeartbeats 4000000 in
set_option maxRecDepth 100000 in
theorem w_X0_findNeighbours_L7 {X : xC} {l : Launch} {D : va_G} {cI cJ cZ cA : ClassId} {V : Nat → Nat} (K : xk X l rm_X0_findNeighbours D vwCl (xtys cI cJ cZ cA) cX0_findNeighbours RX0 wsX0_findNeighbours 2) (land : Nat → Int64) (worn : Nat → Int32) (trial : Nat → Int32) (fits : Nat → Int32) (ways : Nat → Int64) (P0 : Int32 → (Nat → Int32) → Prop) : ∀ (n : Nat) (x1 : Int32) (there : Int32) (near : Nat → Int32), q_X0_findNeighbours_L7 land P0 n x1 there near → (∀ (z0 : Int32) (z1 : Nat → Int32), P0 z0 z1 → xw X 0 0 67 [] [] (wX0 cI cJ cZ cA V land z0 z1 worn trial fits ways)) → xw X 0 0 7 [(0, .ref (V 0)), (1, .int x1)] [] (wX0 cI cJ cZ cA V land there near worn trial fits ways) := by
  intro n
  induction n with
  | zero =>
    intro x1 there near h
    rw [q_X0_findNeighbours_L7] at h
    exact h.elim
  | succ n ih =>
    intro x1 there near h k0
    rw [q_X0_findNeighbours_L7] at h
    refine x_iload_n (pc := 7) K dX0_findNeighbours_7 1 rfl rfl ?_
    refine x_bipush (v := 10) (pc := 8) K dX0_findNeighbours_8 (by decide) ?_
    refine x_icmp_ge (pc := 10) K dX0_findNeighbours_10 (tgt := 67) (by decide) (fun c9 => ?_) (fun c9 => ?_)
    · have h := h.1 c9
      refine x_keep [false, false] rfl ?_
      exact k0 there near h
    · have h := h.2 c9
      refine x_aload_n (pc := 13) K dX0_findNeighbours_13 0 rfl rfl ?_
      refine x_get (pc := 14) (ci := 0) (C := RX0) (T := TX0) (N := 8) K (inX0_findNeighbours) 0 rfl rfl 0 (by decide) kX0_findNeighbours_1 rfl rfl dX0_findNeighbours_14 ?_
      refine x_iload_n (pc := 17) K dX0_findNeighbours_17 1 rfl rfl ?_
      have g9 := h.1
      replace h := h.2
      refine x_lald (pc := 18) K 1 1 rfl rfl g9 dX0_findNeighbours_18 ?_
      clear g9
      refine x_lconst (v := 0) (pc := 19) K dX0_findNeighbours_19 (by decide) ?_
      refine x_lcmp (pc := 20) K dX0_findNeighbours_20 ?_
      obtain ⟨J1, hJ1, h⟩ := xj1_o h
      have kJ1 : ∀ (v2 : Int32), J1 v2 → xw X 0 0 36 [(0, .ref (V 0)), (1, .int x1)] [] (wX0 cI cJ cZ cA V land v2 near worn trial fits ways) := by
        intro v2 hj
        have h := hJ1 v2 hj
        refine x_aload_n (pc := 36) K dX0_findNeighbours_36 0 rfl rfl ?_
        refine x_get (pc := 37) (ci := 0) (C := RX0) (T := TX0) (N := 8) K (inX0_findNeighbours) 0 rfl rfl 2 (by decide) kX0_findNeighbours_2 rfl rfl dX0_findNeighbours_37 ?_
        refine x_iload_n (pc := 40) K dX0_findNeighbours_40 1 rfl rfl ?_
        refine x_aload_n (pc := 41) K dX0_findNeighbours_41 0 rfl rfl ?_
        refine x_aload_n (pc := 42) K dX0_findNeighbours_42 0 rfl rfl ?_
        refine x_get (pc := 43) (ci := 0) (C := RX0) (T := TX0) (N := 8) K (inX0_findNeighbours) 0 rfl rfl 0 (by decide) kX0_findNeighbours_1 rfl rfl dX0_findNeighbours_43 ?_
        refine x_iload_n (pc := 46) K dX0_findNeighbours_46 1 rfl rfl ?_
        have g9 := h.1
        replace h := h.2
        refine x_lald (pc := 47) K 1 1 rfl rfl g9 dX0_findNeighbours_47 ?_
        clear g9
        refine x_pcallSl (pc := 48) (n := 1) K (c_X0_spread l D cI cJ cZ cA (land x1.toNatClampNeg) _ h) rfl rfl gX0_findNeighbours_X0_spread rfl (by decide +kernel) ⟨Nat.le_of_ble_eq_true rfl, Nat.le_of_ble_eq_true rfl⟩ rfl (av := [.long (land x1.toNatClampNeg)]) rfl (Nat.le_of_ble_eq_true rfl) dX0_findNeighbours_48 ⟨Nat.le_of_ble_eq_true rfl, Nat.le_of_ble_eq_true rfl⟩ (fun r3 u9 h => ?_)
        refine x_callVi (pc := 51) (n := 1) K (c_X0_thoseIn l D cI cJ cZ cA V r3 land v2 near worn trial fits ways _ h) rfl rfl gX0_findNeighbours_X0_thoseIn rfl (by decide +kernel) ⟨Nat.le_of_ble_eq_true rfl, Nat.le_of_ble_eq_true rfl⟩ rfl (av := [.long r3]) (b := V 0) (ci := 0) (q0 := 0) rfl rfl rfl (Nat.le_of_ble_eq_true rfl) [0, 1, 2, 3, 4, 5, 6] [] (wr := []) rfl rfl rfl rfl (by decide) dX0_findNeighbours_51 ⟨Nat.le_of_ble_eq_true rfl, Nat.le_of_ble_eq_true rfl⟩ (fun r4 u9 h => ?_)
        refine x_ws (ws' := (wX0 cI cJ cZ cA V land v2 near worn trial fits ways)) rfl ?_
        refine x_iconst (v := 1) (pc := 54) K dX0_findNeighbours_54 (by decide) ?_
        refine x_iload_n (pc := 55) K dX0_findNeighbours_55 1 rfl rfl ?_
        refine x_ishl (pc := 56) K dX0_findNeighbours_56 ?_
        refine x_iconst (v := (-1)) (pc := 57) K dX0_findNeighbours_57 (by decide) ?_
        refine x_ixor (pc := 58) K dX0_findNeighbours_58 ?_
        refine x_iand (pc := 59) K dX0_findNeighbours_59 ?_
        have g9 := h.1
        replace h := h.2
        refine x_iast (ws' := (wX0 cI cJ cZ cA V land v2 (upd near x1.toNatClampNeg (r4 &&& ((1 <<< (x1 &&& 31)) ^^^ (-1)))) worn trial fits ways)) (pc := 60) K 2 0 rfl rfl rfl g9 dX0_findNeighbours_60 ?_
        clear g9
        refine x_iinc (v := x1 + 1) (lv' := [(0, .ref (V 0)), (1, .int (x1 + 1))]) (pc := 61) K dX0_findNeighbours_61 (k := 1) rfl rfl (by decide) rfl ?_
        refine x_goto (pc := 64) K dX0_findNeighbours_64 (tgt := 7) (by decide) ?_
        exact ih (x1 + 1) v2 (upd near x1.toNatClampNeg (r4 &&& ((1 <<< (x1 &&& 31)) ^^^ (-1)))) h k0
      refine x_if_eq (pc := 21) K dX0_findNeighbours_21 (tgt := 36) (by decide) (fun c9 => ?_) (fun c9 => ?_)
      · have h := h.1 c9
        exact kJ1 there h
      · have h := h.2 c9
        refine x_aload_n (pc := 24) K dX0_findNeighbours_24 0 rfl rfl ?_
        refine x_dup (pc := 25) K dX0_findNeighbours_25 rfl ?_
        refine x_get (pc := 26) (ci := 0) (C := RX0) (T := TX0) (N := 8) K (inX0_findNeighbours) 0 rfl rfl 1 (by decide) kX0_findNeighbours_0 rfl rfl dX0_findNeighbours_26 ?_
        refine x_iconst (v := 1) (pc := 29) K dX0_findNeighbours_29 (by decide) ?_
        refine x_iload_n (pc := 30) K dX0_findNeighbours_30 1 rfl rfl ?_
        refine x_ishl (pc := 31) K dX0_findNeighbours_31 ?_
        refine x_ior (pc := 32) K dX0_findNeighbours_32 ?_
        refine x_put (ws' := (wX0 cI cJ cZ cA V land (there ||| (1 <<< (x1 &&& 31))) near worn trial fits ways)) (pc := 33) (ci := 0) (C := RX0) (T := TX0) (N := 8) (ty := .int) K (inX0_findNeighbours) tyX0 tyX0_ok nmX0 0 rfl rfl 1 (by decide) kX0_findNeighbours_0 rfl rfl rfl rfl rfl (Nat.le_of_ble_eq_true rfl) rfl dX0_findNeighbours_33 ?_
        exact kJ1 (there ||| (1 <<< (x1 &&& 31))) h
set_option maxHeartbeats 4000000 in
set_option maxRecDepth 100000 in
theorem c_X0_findNeighbours (l : Launch) (D : va_G) (cI cJ cZ cA : ClassId) (V : Nat → Nat) (land : Nat → Int64) (there : Int32) (near : Nat → Int32) (worn : Nat → Int32) (trial : Nat → Int32) (fits : Nat → Int32) (ways : Nat → Int64) (P : Int32 → (Nat → Int32) → Prop) (h : q_X0_findNeighbours land near P) : xMv l yX0_findNeighbours wsX0_findNeighbours rm_X0_findNeighbours D vwCl (xtys cI cJ cZ cA) (wX0 cI cJ cZ cA V land there near worn trial fits ways) [.ref (V 0)] (σ := Int32 × (Nat → Int32)) (fun u => (wX0 cI cJ cZ cA V land u.1 u.2 worn trial fits ways)) (fun u => P u.1 u.2) := by
  refine xMv_of (cc := cX0_findNeighbours) (maxL := 2) (by decide) rfl (Nat.le_of_ble_eq_true rfl) ?_
  intro X K hE
  have K : xk X l rm_X0_findNeighbours D vwCl (xtys cI cJ cZ cA) cX0_findNeighbours RX0 wsX0_findNeighbours 2 := K
  unfold q_X0_findNeighbours at h
  refine x_aload_n (pc := 0) K dX0_findNeighbours_0 0 rfl rfl ?_
  refine x_iconst (v := 0) (pc := 1) K dX0_findNeighbours_1 (by decide) ?_
  refine x_put (ws' := (wX0 cI cJ cZ cA V land 0 near worn trial fits ways)) (pc := 2) (ci := 0) (C := RX0) (T := TX0) (N := 8) (ty := .int) K (inX0_findNeighbours) tyX0 tyX0_ok nmX0 0 rfl rfl 1 (by decide) kX0_findNeighbours_0 rfl rfl rfl rfl rfl (Nat.le_of_ble_eq_true rfl) rfl dX0_findNeighbours_2 ?_
  refine x_iconst (v := 0) (pc := 5) K dX0_findNeighbours_5 (by decide) ?_
  refine x_istore_n (lv' := [(0, .ref (V 0)), (1, .int 0)]) (pc := 6) K dX0_findNeighbours_6 rfl (by decide) rfl ?_
  obtain ⟨n6, h⟩ := h
  refine w_X0_findNeighbours_L7 K land worn trial fits ways _ n6 0 0 near h (fun v7 v8 h => ?_)
  exact hE (v7, v8) _ _ h dX0_findNeighbours_67
abbrev rm_X0_cover : Room := { frames := 11, cells := 0, slots := 0, locals := 240 }
theorem inX0_cover : ∀ w ∈ u_ws RX0 TX0 8, w ∈ wsX0_cover := by decide +kernel
theorem kX0_cover_0 : Cond.fieldLink RX0 9 "FourTints" "land" "[J" ∈ wsX0_cover := by decide +kernel
theorem kX0_cover_1 : Cond.constantLong RX0 70 (-1) ∈ wsX0_cover := by decide +kernel
def q_X0_cover_L3 (u1 : Int64) (P0 : (Nat → Int64) → Prop) : Nat → Int32 → (Nat → Int64) → Prop
  | 0, _, _ => False
  | n + 1, x4, land => ((10 ≤ x4 → P0 land) ∧ (¬ 10 ≤ x4 → xin x4 10 = true ∧ xin x4 10 = true ∧ q_X0_cover_L3 u1 P0 n (x4 + 1) (vp_updL land x4.toNatClampNeg ((land x4.toNatClampNeg) &&& (u1 ^^^ (-1))))))
def q_X0_cover (p1 : Int64) (p3 : Int32) (land : Nat → Int64) (near : Nat → Int32) (P : (Nat → Int64) → Int32 → (Nat → Int32) → Prop) : Prop := (∃ n2 : Nat, q_X0_cover_L3 p1 (fun (v3 : Nat → Int64) => ((p3 < 0 → q_X0_findNeighbours v3 near (fun (there_4 : Int32) (near_5 : Nat → Int32) => P v3 there_4 near_5)) ∧ (¬ p3 < 0 → ((10 ≤ p3 → q_X0_findNeighbours v3 near (fun (there_6 : Int32) (near_7 : Nat → Int32) => P v3 there_6 near_7)) ∧ (¬ 10 ≤ p3 → xin p3 10 = true ∧ xin p3 10 = true ∧ q_X0_findNeighbours (vp_updL v3 p3.toNatClampNeg ((v3 p3.toNatClampNeg) ||| p1)) near (fun (there_9 : Int32) (near_10 : Nat → Int32) => P (vp_updL v3 p3.toNatClampNeg ((v3 p3.toNatClampNeg) ||| p1)) there_9 near_10)))))) n2 0 land)
set_option maxHeartbeats 4000000 in
set_option maxRecDepth 100000 in
theorem w_X0_cover_L3 {X : xC} {l : Launch} {D : va_G} {cI cJ cZ cA : ClassId} {V : Nat → Nat} (K : xk X l rm_X0_cover D vwCl (xtys cI cJ cZ cA) cX0_cover RX0 wsX0_cover 5) (u1 : Int64) (u3 : Int32) (there : Int32) (near : Nat → Int32) (worn : Nat → Int32) (trial : Nat → Int32) (fits : Nat → Int32) (ways : Nat → Int64) (P0 : (Nat → Int64) → Prop) : ∀ (n : Nat) (x4 : Int32) (land : Nat → Int64), q_X0_cover_L3 u1 P0 n x4 land → (∀ (z0 : Nat → Int64), P0 z0 → xw X 0 0 31 [(0, .ref (V 0)), (1, .long u1), (3, .int u3)] [] (wX0 cI cJ cZ cA V z0 there near worn trial fits ways)) → xw X 0 0 3 [(0, .ref (V 0)), (1, .long u1), (3, .int u3), (4, .int x4)] [] (wX0 cI cJ cZ cA V land there near worn trial fits ways) := by
  intro n
  induction n with
  | zero =>
    intro x4 land h
    rw [q_X0_cover_L3] at h
    exact h.elim
  | succ n ih =>
    intro x4 land h k0
    rw [q_X0_cover_L3] at h
    refine x_iload (pc := 3) K dX0_cover_3 3 rfl ?_
    refine x_bipush (v := 10) (pc := 5) K dX0_cover_5 (by decide) ?_
    refine x_icmp_ge (pc := 7) K dX0_cover_7 (tgt := 31) (by decide) (fun c9 => ?_) (fun c9 => ?_)
    · have h := h.1 c9
      refine x_keep [true, true, true, false] rfl ?_
      exact k0 land h
    · have h := h.2 c9
      refine x_aload_n (pc := 10) K dX0_cover_10 0 rfl rfl ?_
      refine x_get (pc := 11) (ci := 0) (C := RX0) (T := TX0) (N := 8) K (inX0_cover) 0 rfl rfl 0 (by decide) kX0_cover_0 rfl rfl dX0_cover_11 ?_
      refine x_iload (pc := 14) K dX0_cover_14 3 rfl ?_
      refine x_dup2 (pc := 16) K dX0_cover_16 rfl rfl ?_
      have g9 := h.1
      replace h := h.2
      refine x_lald (pc := 17) K 1 1 rfl rfl g9 dX0_cover_17 ?_
      clear g9
      refine x_lload_n (pc := 18) K dX0_cover_18 1 rfl rfl ?_
      refine x_ldc2 (pc := 19) (v := (-1)) K kX0_cover_1 dX0_cover_19 ?_
      refine x_lxor (pc := 22) K dX0_cover_22 ?_
      refine x_land (pc := 23) K dX0_cover_23 ?_
      have g9 := h.1
      replace h := h.2
      refine x_last (ws' := (wX0 cI cJ cZ cA V (vp_updL land x4.toNatClampNeg ((land x4.toNatClampNeg) &&& (u1 ^^^ (-1)))) there near worn trial fits ways)) (pc := 24) K 1 1 rfl rfl rfl g9 dX0_cover_24 ?_
      clear g9
      refine x_iinc (v := x4 + 1) (lv' := [(0, .ref (V 0)), (1, .long u1), (3, .int u3), (4, .int (x4 + 1))]) (pc := 25) K dX0_cover_25 (k := 3) rfl rfl (by decide) rfl ?_
      refine x_goto (pc := 28) K dX0_cover_28 (tgt := 3) (by decide) ?_
      exact ih (x4 + 1) (vp_updL land x4.toNatClampNeg ((land x4.toNatClampNeg) &&& (u1 ^^^ (-1)))) h k0
set_option maxHeartbeats 4000000 in
set_option maxRecDepth 100000 in
theorem c_X0_cover (l : Launch) (D : va_G) (cI cJ cZ cA : ClassId) (V : Nat → Nat) (p1 : Int64) (p3 : Int32) (land : Nat → Int64) (there : Int32) (near : Nat → Int32) (worn : Nat → Int32) (trial : Nat → Int32) (fits : Nat → Int32) (ways : Nat → Int64) (P : (Nat → Int64) → Int32 → (Nat → Int32) → Prop) (h : q_X0_cover p1 p3 land near P) : xMv l yX0_cover wsX0_cover rm_X0_cover D vwCl (xtys cI cJ cZ cA) (wX0 cI cJ cZ cA V land there near worn trial fits ways) [.ref (V 0), .long p1, .int p3] (σ := (Nat → Int64) × Int32 × (Nat → Int32)) (fun u => (wX0 cI cJ cZ cA V u.1 u.2.1 u.2.2 worn trial fits ways)) (fun u => P u.1 u.2.1 u.2.2) := by
  refine xMv_of (cc := cX0_cover) (maxL := 5) (by decide) rfl (Nat.le_of_ble_eq_true rfl) ?_
  intro X K hE
  have K : xk X l rm_X0_cover D vwCl (xtys cI cJ cZ cA) cX0_cover RX0 wsX0_cover 5 := K
  unfold q_X0_cover at h
  refine x_iconst (v := 0) (pc := 0) K dX0_cover_0 (by decide) ?_
  refine x_istore (lv' := [(0, .ref (V 0)), (1, .long p1), (3, .int p3), (4, .int 0)]) (pc := 1) K dX0_cover_1 (by decide) rfl ?_
  obtain ⟨n2, h⟩ := h
  refine w_X0_cover_L3 K p1 p3 there near worn trial fits ways _ n2 0 land h (fun v3 h => ?_)
  refine x_iload_n (pc := 31) K dX0_cover_31 2 rfl rfl ?_
  refine x_if_lt (pc := 32) K dX0_cover_32 (tgt := 51) (by decide) (fun c9 => ?_) (fun c9 => ?_)
  · have h := h.1 c9
    refine x_keep [true, false, false] rfl ?_
    refine x_aload_n (pc := 51) K dX0_cover_51 0 rfl rfl ?_
    refine x_callVv (pc := 52) (n := 0) K (c_X0_findNeighbours l D cI cJ cZ cA V v3 there near worn trial fits ways _ h) rfl rfl gX0_cover_X0_findNeighbours rfl (by decide +kernel) ⟨Nat.le_of_ble_eq_true rfl, Nat.le_of_ble_eq_true rfl⟩ rfl (av := []) (b := V 0) (ci := 0) (q0 := 0) rfl rfl rfl (Nat.le_of_ble_eq_true rfl) [0, 1, 2, 3, 4, 5, 6] [] (wr := []) rfl rfl rfl rfl (by decide) dX0_cover_52 ⟨Nat.le_of_ble_eq_true rfl, Nat.le_of_ble_eq_true rfl⟩ (fun u9 h => ?_)
    obtain ⟨there_4, near_5⟩ := u9
    refine x_ws (ws' := (wX0 cI cJ cZ cA V v3 there_4 near_5 worn trial fits ways)) rfl ?_
    exact hE (v3, there_4, near_5) _ _ h dX0_cover_55
  · have h := h.2 c9
    refine x_iload_n (pc := 35) K dX0_cover_35 2 rfl rfl ?_
    refine x_bipush (v := 10) (pc := 36) K dX0_cover_36 (by decide) ?_
    refine x_icmp_ge (pc := 38) K dX0_cover_38 (tgt := 51) (by decide) (fun c9 => ?_) (fun c9 => ?_)
    · have h := h.1 c9
      refine x_keep [true, false, false] rfl ?_
      refine x_aload_n (pc := 51) K dX0_cover_51 0 rfl rfl ?_
      refine x_callVv (pc := 52) (n := 0) K (c_X0_findNeighbours l D cI cJ cZ cA V v3 there near worn trial fits ways _ h) rfl rfl gX0_cover_X0_findNeighbours rfl (by decide +kernel) ⟨Nat.le_of_ble_eq_true rfl, Nat.le_of_ble_eq_true rfl⟩ rfl (av := []) (b := V 0) (ci := 0) (q0 := 0) rfl rfl rfl (Nat.le_of_ble_eq_true rfl) [0, 1, 2, 3, 4, 5, 6] [] (wr := []) rfl rfl rfl rfl (by decide) dX0_cover_52 ⟨Nat.le_of_ble_eq_true rfl, Nat.le_of_ble_eq_true rfl⟩ (fun u9 h => ?_)
      obtain ⟨there_6, near_7⟩ := u9
      refine x_ws (ws' := (wX0 cI cJ cZ cA V v3 there_6 near_7 worn trial fits ways)) rfl ?_
      exact hE (v3, there_6, near_7) _ _ h dX0_cover_55
    · have h := h.2 c9
      refine x_aload_n (pc := 41) K dX0_cover_41 0 rfl rfl ?_
      refine x_get (pc := 42) (ci := 0) (C := RX0) (T := TX0) (N := 8) K (inX0_cover) 0 rfl rfl 0 (by decide) kX0_cover_0 rfl rfl dX0_cover_42 ?_
      refine x_iload_n (pc := 45) K dX0_cover_45 2 rfl rfl ?_
      refine x_dup2 (pc := 46) K dX0_cover_46 rfl rfl ?_
      have g9 := h.1
      replace h := h.2
      refine x_lald (pc := 47) K 1 1 rfl rfl g9 dX0_cover_47 ?_
      clear g9
      refine x_lload_n (pc := 48) K dX0_cover_48 1 rfl rfl ?_
      refine x_lor (pc := 49) K dX0_cover_49 ?_
      have g9 := h.1
      replace h := h.2
      refine x_last (ws' := (wX0 cI cJ cZ cA V (vp_updL v3 p3.toNatClampNeg ((v3 p3.toNatClampNeg) ||| p1)) there near worn trial fits ways)) (pc := 50) K 1 1 rfl rfl rfl g9 dX0_cover_50 ?_
      clear g9
      refine x_keep [true, false, false] rfl ?_
      refine x_aload_n (pc := 51) K dX0_cover_51 0 rfl rfl ?_
      refine x_callVv (pc := 52) (n := 0) K (c_X0_findNeighbours l D cI cJ cZ cA V (vp_updL v3 p3.toNatClampNeg ((v3 p3.toNatClampNeg) ||| p1)) there near worn trial fits ways _ h) rfl rfl gX0_cover_X0_findNeighbours rfl (by decide +kernel) ⟨Nat.le_of_ble_eq_true rfl, Nat.le_of_ble_eq_true rfl⟩ rfl (av := []) (b := V 0) (ci := 0) (q0 := 0) rfl rfl rfl (Nat.le_of_ble_eq_true rfl) [0, 1, 2, 3, 4, 5, 6] [] (wr := []) rfl rfl rfl rfl (by decide) dX0_cover_52 ⟨Nat.le_of_ble_eq_true rfl, Nat.le_of_ble_eq_true rfl⟩ (fun u9 h => ?_)
      obtain ⟨there_9, near_10⟩ := u9
      refine x_ws (ws' := (wX0 cI cJ cZ cA V (vp_updL v3 p3.toNatClampNeg ((v3 p3.toNatClampNeg) ||| p1)) there_9 near_10 worn trial fits ways)) rfl ?_
      exact hE ((vp_updL v3 p3.toNatClampNeg ((v3 p3.toNatClampNeg) ||| p1)), there_9, near_10) _ _ h dX0_cover_55
abbrev rm_X0_withNeighbours : Room := { frames := 9, cells := 0, slots := 0, locals := 160 }
theorem inX0_withNeighbours : ∀ w ∈ u_ws RX0 TX0 8, w ∈ wsX0_withNeighbours := by decide +kernel
theorem kX0_withNeighbours_0 : Cond.fieldLink RX0 13 "FourTints" "there" "I" ∈ wsX0_withNeighbours := by decide +kernel
theorem kX0_withNeighbours_1 : Cond.fieldLink RX0 17 "FourTints" "near" "[I" ∈ wsX0_withNeighbours := by decide +kernel
def q_X0_withNeighbours_L4 (u1 : Int32) (there : Int32) (near : Nat → Int32) (P0 : Int32 → Prop) : Nat → Int32 → Int32 → Prop
  | 0, _, _ => False
  | n + 1, x2, x3 => ((10 ≤ x3 → P0 x2) ∧ (¬ 10 ≤ x3 → q_X0_has there x3 (fun (r1 : Int32) => ((r1 = 0 → q_X0_withNeighbours_L4 u1 there near P0 n x2 (x3 + 1)) ∧ (¬ r1 = 0 → xin x3 10 = true ∧ q_J6_bitCount_0f7a4 (near x3.toNatClampNeg) (fun (r2 : Int32) => ((¬ r2 = u1 → q_X0_withNeighbours_L4 u1 there near P0 n x2 (x3 + 1)) ∧ (r2 = u1 → xl (x2 ||| (1 <<< (x3 &&& 31))) (fun y3 => q_X0_withNeighbours_L4 u1 there near P0 n y3 (x3 + 1))))))))))
def q_X0_withNeighbours (p1 : Int32) (there : Int32) (near : Nat → Int32) (P : Int32 → Prop) : Prop := (∃ n4 : Nat, q_X0_withNeighbours_L4 p1 there near (fun (v5 : Int32) => P v5) n4 0 0)
set_option maxHeartbeats 4000000 in
set_option maxRecDepth 100000 in
theorem w_X0_withNeighbours_L4 {X : xC} {l : Launch} {D : va_G} {cI cJ cZ cA : ClassId} {V : Nat → Nat} (K : xk X l rm_X0_withNeighbours D vwCl (xtys cI cJ cZ cA) cX0_withNeighbours RX0 wsX0_withNeighbours 4) (u1 : Int32) (land : Nat → Int64) (there : Int32) (near : Nat → Int32) (worn : Nat → Int32) (trial : Nat → Int32) (fits : Nat → Int32) (ways : Nat → Int64) (P0 : Int32 → Prop) : ∀ (n : Nat) (x2 : Int32) (x3 : Int32), q_X0_withNeighbours_L4 u1 there near P0 n x2 x3 → (∀ (z0 : Int32), P0 z0 → xw X 0 0 46 [(2, .int z0)] [] (wX0 cI cJ cZ cA V land there near worn trial fits ways)) → xw X 0 0 4 [(0, .ref (V 0)), (1, .int u1), (2, .int x2), (3, .int x3)] [] (wX0 cI cJ cZ cA V land there near worn trial fits ways) := by
  intro n
  induction n with
  | zero =>
    intro x2 x3 h
    rw [q_X0_withNeighbours_L4] at h
    exact h.elim
  | succ n ih =>
    intro x2 x3 h k0
    rw [q_X0_withNeighbours_L4] at h
    refine x_iload_n (pc := 4) K dX0_withNeighbours_4 3 rfl rfl ?_
    refine x_bipush (v := 10) (pc := 5) K dX0_withNeighbours_5 (by decide) ?_
    refine x_icmp_ge (pc := 7) K dX0_withNeighbours_7 (tgt := 46) (by decide) (fun c9 => ?_) (fun c9 => ?_)
    · have h := h.1 c9
      refine x_keep [false, false, true, false] rfl ?_
      exact k0 x2 h
    · have h := h.2 c9
      refine x_aload_n (pc := 10) K dX0_withNeighbours_10 0 rfl rfl ?_
      refine x_get (pc := 11) (ci := 0) (C := RX0) (T := TX0) (N := 8) K (inX0_withNeighbours) 0 rfl rfl 1 (by decide) kX0_withNeighbours_0 rfl rfl dX0_withNeighbours_11 ?_
      refine x_iload_n (pc := 14) K dX0_withNeighbours_14 3 rfl rfl ?_
      refine x_pcallSz (pc := 15) (n := 2) K (c_X0_has l D cI cJ cZ cA there x3 _ h) rfl rfl gX0_withNeighbours_X0_has rfl (by decide +kernel) ⟨Nat.le_of_ble_eq_true rfl, Nat.le_of_ble_eq_true rfl⟩ rfl (av := [.int there, .int x3]) rfl (Nat.le_of_ble_eq_true rfl) dX0_withNeighbours_15 ⟨Nat.le_of_ble_eq_true rfl, Nat.le_of_ble_eq_true rfl⟩ (fun r1 u9 h => ?_)
      refine x_if_eq (pc := 18) K dX0_withNeighbours_18 (tgt := 40) (by decide) (fun c9 => ?_) (fun c9 => ?_)
      · have h := h.1 c9
        refine x_iinc (v := x3 + 1) (lv' := [(0, .ref (V 0)), (1, .int u1), (2, .int x2), (3, .int (x3 + 1))]) (pc := 40) K dX0_withNeighbours_40 (k := 3) rfl rfl (by decide) rfl ?_
        refine x_goto (pc := 43) K dX0_withNeighbours_43 (tgt := 4) (by decide) ?_
        exact ih x2 (x3 + 1) h k0
      · have h := h.2 c9
        refine x_aload_n (pc := 21) K dX0_withNeighbours_21 0 rfl rfl ?_
        refine x_get (pc := 22) (ci := 0) (C := RX0) (T := TX0) (N := 8) K (inX0_withNeighbours) 0 rfl rfl 2 (by decide) kX0_withNeighbours_1 rfl rfl dX0_withNeighbours_22 ?_
        refine x_iload_n (pc := 25) K dX0_withNeighbours_25 3 rfl rfl ?_
        have g9 := h.1
        replace h := h.2
        refine x_iald (pc := 26) K 2 0 rfl rfl g9 dX0_withNeighbours_26 ?_
        clear g9
        refine x_pcallSi (pc := 27) (n := 1) K (c_J6_bitCount_0f7a4 l D cI cJ cZ cA (near x3.toNatClampNeg) _ h) rfl rfl gX0_withNeighbours_J6_bitCount_0f7a4 rfl (by decide +kernel) ⟨Nat.le_of_ble_eq_true rfl, Nat.le_of_ble_eq_true rfl⟩ rfl (av := [.int (near x3.toNatClampNeg)]) rfl (Nat.le_of_ble_eq_true rfl) dX0_withNeighbours_27 ⟨Nat.le_of_ble_eq_true rfl, Nat.le_of_ble_eq_true rfl⟩ (fun r2 u9 h => ?_)
        refine x_iload_n (pc := 30) K dX0_withNeighbours_30 1 rfl rfl ?_
        refine x_icmp_ne (pc := 31) K dX0_withNeighbours_31 (tgt := 40) (by decide) (fun c9 => ?_) (fun c9 => ?_)
        · have h := h.1 c9
          refine x_iinc (v := x3 + 1) (lv' := [(0, .ref (V 0)), (1, .int u1), (2, .int x2), (3, .int (x3 + 1))]) (pc := 40) K dX0_withNeighbours_40 (k := 3) rfl rfl (by decide) rfl ?_
          refine x_goto (pc := 43) K dX0_withNeighbours_43 (tgt := 4) (by decide) ?_
          exact ih x2 (x3 + 1) h k0
        · have h := h.2 c9
          refine x_iload_n (pc := 34) K dX0_withNeighbours_34 2 rfl rfl ?_
          refine x_iconst (v := 1) (pc := 35) K dX0_withNeighbours_35 (by decide) ?_
          refine x_iload_n (pc := 36) K dX0_withNeighbours_36 3 rfl rfl ?_
          refine x_ishl (pc := 37) K dX0_withNeighbours_37 ?_
          refine x_ior (pc := 38) K dX0_withNeighbours_38 ?_
          obtain ⟨y3, ey3, h⟩ := xl_o h
          refine x_topi ey3 ?_
          clear ey3
          refine x_istore_n (lv' := [(0, .ref (V 0)), (1, .int u1), (2, .int y3), (3, .int x3)]) (pc := 39) K dX0_withNeighbours_39 rfl (by decide) rfl ?_
          refine x_iinc (v := x3 + 1) (lv' := [(0, .ref (V 0)), (1, .int u1), (2, .int y3), (3, .int (x3 + 1))]) (pc := 40) K dX0_withNeighbours_40 (k := 3) rfl rfl (by decide) rfl ?_
          refine x_goto (pc := 43) K dX0_withNeighbours_43 (tgt := 4) (by decide) ?_
          exact ih y3 (x3 + 1) h k0
set_option maxHeartbeats 4000000 in
set_option maxRecDepth 100000 in
theorem c_X0_withNeighbours (l : Launch) (D : va_G) (cI cJ cZ cA : ClassId) (V : Nat → Nat) (p1 : Int32) (land : Nat → Int64) (there : Int32) (near : Nat → Int32) (worn : Nat → Int32) (trial : Nat → Int32) (fits : Nat → Int32) (ways : Nat → Int64) (P : Int32 → Prop) (h : q_X0_withNeighbours p1 there near P) : xMi l yX0_withNeighbours wsX0_withNeighbours rm_X0_withNeighbours D vwCl (xtys cI cJ cZ cA) (wX0 cI cJ cZ cA V land there near worn trial fits ways) [.ref (V 0), .int p1] (σ := Unit) (fun _ => (wX0 cI cJ cZ cA V land there near worn trial fits ways)) (fun r _ => P r) := by
  refine xMi_of (cc := cX0_withNeighbours) (maxL := 4) (by decide) rfl (Nat.le_of_ble_eq_true rfl) ?_
  intro X K hE
  have K : xk X l rm_X0_withNeighbours D vwCl (xtys cI cJ cZ cA) cX0_withNeighbours RX0 wsX0_withNeighbours 4 := K
  unfold q_X0_withNeighbours at h
  refine x_iconst (v := 0) (pc := 0) K dX0_withNeighbours_0 (by decide) ?_
  refine x_istore_n (lv' := [(0, .ref (V 0)), (1, .int p1), (2, .int 0)]) (pc := 1) K dX0_withNeighbours_1 rfl (by decide) rfl ?_
  refine x_iconst (v := 0) (pc := 2) K dX0_withNeighbours_2 (by decide) ?_
  refine x_istore_n (lv' := [(0, .ref (V 0)), (1, .int p1), (2, .int 0), (3, .int 0)]) (pc := 3) K dX0_withNeighbours_3 rfl (by decide) rfl ?_
  obtain ⟨n4, h⟩ := h
  refine w_X0_withNeighbours_L4 K p1 land there near worn trial fits ways _ n4 0 0 h (fun v5 h => ?_)
  refine x_iload_n (pc := 46) K dX0_withNeighbours_46 0 rfl rfl ?_
  exact hE v5 () _ _ h dX0_withNeighbours_47
abbrev rm_X0_leastFreeBeside : Room := { frames := 9, cells := 0, slots := 0, locals := 160 }
def q_X0_leastFreeBeside_L2 (u1 : Int32) (worn : Nat → Int32) (P0 : Prop) (P1 : Int32 → Prop) : Nat → Int32 → Prop
  | 0, _ => False
  | n + 1, x2 => ((10 ≤ x2 → P0) ∧ (¬ 10 ≤ x2 → q_X0_wearing x2 worn (fun (r1 : Int32) => ((¬ (r1 &&& u1) = 0 → q_X0_leastFreeBeside_L2 u1 worn P0 P1 n (x2 + 1)) ∧ ((r1 &&& u1) = 0 → P1 x2)))))
def q_X0_leastFreeBeside (p1 : Int32) (worn : Nat → Int32) (P : Int32 → Prop) : Prop := (∃ n2 : Nat, q_X0_leastFreeBeside_L2 p1 worn (P 10) (fun (v3 : Int32) => P v3) n2 1)
set_option maxHeartbeats 4000000 in
set_option maxRecDepth 100000 in
theorem w_X0_leastFreeBeside_L2 {X : xC} {l : Launch} {D : va_G} {cI cJ cZ cA : ClassId} {V : Nat → Nat} (K : xk X l rm_X0_leastFreeBeside D vwCl (xtys cI cJ cZ cA) cX0_leastFreeBeside RX0 wsX0_leastFreeBeside 3) (u1 : Int32) (land : Nat → Int64) (there : Int32) (near : Nat → Int32) (worn : Nat → Int32) (trial : Nat → Int32) (fits : Nat → Int32) (ways : Nat → Int64) (P0 : Prop) (P1 : Int32 → Prop) : ∀ (n : Nat) (x2 : Int32), q_X0_leastFreeBeside_L2 u1 worn P0 P1 n x2 → (P0 → xw X 0 0 26 [] [] (wX0 cI cJ cZ cA V land there near worn trial fits ways)) → (∀ (z0 : Int32), P1 z0 → xw X 0 0 18 [(2, .int z0)] [] (wX0 cI cJ cZ cA V land there near worn trial fits ways)) → xw X 0 0 2 [(0, .ref (V 0)), (1, .int u1), (2, .int x2)] [] (wX0 cI cJ cZ cA V land there near worn trial fits ways) := by
  intro n
  induction n with
  | zero =>
    intro x2 h
    rw [q_X0_leastFreeBeside_L2] at h
    exact h.elim
  | succ n ih =>
    intro x2 h k0 k1
    rw [q_X0_leastFreeBeside_L2] at h
    refine x_iload_n (pc := 2) K dX0_leastFreeBeside_2 2 rfl rfl ?_
    refine x_bipush (v := 10) (pc := 3) K dX0_leastFreeBeside_3 (by decide) ?_
    refine x_icmp_ge (pc := 5) K dX0_leastFreeBeside_5 (tgt := 26) (by decide) (fun c9 => ?_) (fun c9 => ?_)
    · have h := h.1 c9
      refine x_keep [false, false, false] rfl ?_
      exact k0  h
    · have h := h.2 c9
      refine x_aload_n (pc := 8) K dX0_leastFreeBeside_8 0 rfl rfl ?_
      refine x_iload_n (pc := 9) K dX0_leastFreeBeside_9 2 rfl rfl ?_
      refine x_callVi (pc := 10) (n := 1) K (c_X0_wearing l D cI cJ cZ cA V x2 land there near worn trial fits ways _ h) rfl rfl gX0_leastFreeBeside_X0_wearing rfl (by decide +kernel) ⟨Nat.le_of_ble_eq_true rfl, Nat.le_of_ble_eq_true rfl⟩ rfl (av := [.int x2]) (b := V 0) (ci := 0) (q0 := 0) rfl rfl rfl (Nat.le_of_ble_eq_true rfl) [0, 1, 2, 3, 4, 5, 6] [] (wr := []) rfl rfl rfl rfl (by decide) dX0_leastFreeBeside_10 ⟨Nat.le_of_ble_eq_true rfl, Nat.le_of_ble_eq_true rfl⟩ (fun r1 u9 h => ?_)
      refine x_ws (ws' := (wX0 cI cJ cZ cA V land there near worn trial fits ways)) rfl ?_
      refine x_iload_n (pc := 13) K dX0_leastFreeBeside_13 1 rfl rfl ?_
      refine x_iand (pc := 14) K dX0_leastFreeBeside_14 ?_
      refine x_if_ne (pc := 15) K dX0_leastFreeBeside_15 (tgt := 20) (by decide) (fun c9 => ?_) (fun c9 => ?_)
      · have h := h.1 c9
        refine x_iinc (v := x2 + 1) (lv' := [(0, .ref (V 0)), (1, .int u1), (2, .int (x2 + 1))]) (pc := 20) K dX0_leastFreeBeside_20 (k := 2) rfl rfl (by decide) rfl ?_
        refine x_goto (pc := 23) K dX0_leastFreeBeside_23 (tgt := 2) (by decide) ?_
        exact ih (x2 + 1) h k0 k1
      · have h := h.2 c9
        refine x_keep [false, false, true] rfl ?_
        exact k1 x2 h
set_option maxHeartbeats 4000000 in
set_option maxRecDepth 100000 in
theorem c_X0_leastFreeBeside (l : Launch) (D : va_G) (cI cJ cZ cA : ClassId) (V : Nat → Nat) (p1 : Int32) (land : Nat → Int64) (there : Int32) (near : Nat → Int32) (worn : Nat → Int32) (trial : Nat → Int32) (fits : Nat → Int32) (ways : Nat → Int64) (P : Int32 → Prop) (h : q_X0_leastFreeBeside p1 worn P) : xMi l yX0_leastFreeBeside wsX0_leastFreeBeside rm_X0_leastFreeBeside D vwCl (xtys cI cJ cZ cA) (wX0 cI cJ cZ cA V land there near worn trial fits ways) [.ref (V 0), .int p1] (σ := Unit) (fun _ => (wX0 cI cJ cZ cA V land there near worn trial fits ways)) (fun r _ => P r) := by
  refine xMi_of (cc := cX0_leastFreeBeside) (maxL := 3) (by decide) rfl (Nat.le_of_ble_eq_true rfl) ?_
  intro X K hE
  have K : xk X l rm_X0_leastFreeBeside D vwCl (xtys cI cJ cZ cA) cX0_leastFreeBeside RX0 wsX0_leastFreeBeside 3 := K
  unfold q_X0_leastFreeBeside at h
  refine x_iconst (v := 1) (pc := 0) K dX0_leastFreeBeside_0 (by decide) ?_
  refine x_istore_n (lv' := [(0, .ref (V 0)), (1, .int p1), (2, .int 1)]) (pc := 1) K dX0_leastFreeBeside_1 rfl (by decide) rfl ?_
  obtain ⟨n2, h⟩ := h
  refine w_X0_leastFreeBeside_L2 K p1 land there near worn trial fits ways _ _ n2 1 h (fun  h => ?_) (fun v3 h => ?_)
  · refine x_bipush (v := 10) (pc := 26) K dX0_leastFreeBeside_26 (by decide) ?_
    exact hE 10 () _ _ h dX0_leastFreeBeside_28
  · refine x_iload_n (pc := 18) K dX0_leastFreeBeside_18 0 rfl rfl ?_
    exact hE v3 () _ _ h dX0_leastFreeBeside_19
abbrev rm_X0_giveLeastFree : Room := { frames := 10, cells := 0, slots := 0, locals := 200 }
theorem inX0_giveLeastFree : ∀ w ∈ u_ws RX0 TX0 8, w ∈ wsX0_giveLeastFree := by decide +kernel
theorem kX0_giveLeastFree_0 : Cond.fieldLink RX0 21 "FourTints" "worn" "[I" ∈ wsX0_giveLeastFree := by decide +kernel
theorem kX0_giveLeastFree_1 : Cond.fieldLink RX0 17 "FourTints" "near" "[I" ∈ wsX0_giveLeastFree := by decide +kernel
theorem kX0_giveLeastFree_2 : Cond.methodLink RX0 92 Lib.Math.max.name ∈ wsX0_giveLeastFree := by decide +kernel
theorem kX0_giveLeastFree_3 : Cond.static Lib.Math.max.name ∈ wsX0_giveLeastFree := by decide +kernel
theorem kX0_giveLeastFree_4 : Cond.initialized "java/lang/Math" ∈ wsX0_giveLeastFree := by decide +kernel
theorem kX0_giveLeastFree_5 : Cond.code Lib.Math.max.name Lib.Math.max.code 2 (some .int) ∈ wsX0_giveLeastFree := by decide +kernel
def q_X0_giveLeastFree_L4 (u1 : Int32) (near : Nat → Int32) (P0 : Int32 → (Nat → Int32) → Prop) : Nat → Int32 → Int32 → (Nat → Int32) → Prop
  | 0, _, _, _ => False
  | n + 1, x2, x3, worn => ((10 ≤ x3 → P0 x2 worn) ∧ (¬ 10 ≤ x3 → q_X0_has u1 x3 (fun (r1 : Int32) => ((r1 = 0 → q_X0_giveLeastFree_L4 u1 near P0 n x2 (x3 + 1) worn) ∧ (¬ r1 = 0 → xin x3 10 = true ∧ q_X0_leastFreeBeside (near x3.toNatClampNeg) worn (fun (r2 : Int32) => xin x3 10 = true ∧ xin x3 10 = true ∧ xl (xmax x2 ((upd worn x3.toNatClampNeg r2) x3.toNatClampNeg)) (fun y4 => q_X0_giveLeastFree_L4 u1 near P0 n y4 (x3 + 1) (upd worn x3.toNatClampNeg r2))))))))
def q_X0_giveLeastFree (p1 : Int32) (near : Nat → Int32) (worn : Nat → Int32) (P : Int32 → (Nat → Int32) → Prop) : Prop := (∃ n5 : Nat, q_X0_giveLeastFree_L4 p1 near (fun (v6 : Int32) (v7 : Nat → Int32) => P v6 v7) n5 0 0 worn)
set_option maxHeartbeats 4000000 in
set_option maxRecDepth 100000 in
theorem w_X0_giveLeastFree_L4 {X : xC} {l : Launch} {D : va_G} {cI cJ cZ cA : ClassId} {V : Nat → Nat} (K : xk X l rm_X0_giveLeastFree D vwCl (xtys cI cJ cZ cA) cX0_giveLeastFree RX0 wsX0_giveLeastFree 4) (u1 : Int32) (land : Nat → Int64) (there : Int32) (near : Nat → Int32) (trial : Nat → Int32) (fits : Nat → Int32) (ways : Nat → Int64) (P0 : Int32 → (Nat → Int32) → Prop) : ∀ (n : Nat) (x2 : Int32) (x3 : Int32) (worn : Nat → Int32), q_X0_giveLeastFree_L4 u1 near P0 n x2 x3 worn → (∀ (z0 : Int32) (z1 : Nat → Int32), P0 z0 z1 → xw X 0 0 51 [(2, .int z0)] [] (wX0 cI cJ cZ cA V land there near z1 trial fits ways)) → xw X 0 0 4 [(0, .ref (V 0)), (1, .int u1), (2, .int x2), (3, .int x3)] [] (wX0 cI cJ cZ cA V land there near worn trial fits ways) := by
  intro n
  induction n with
  | zero =>
    intro x2 x3 worn h
    rw [q_X0_giveLeastFree_L4] at h
    exact h.elim
  | succ n ih =>
    intro x2 x3 worn h k0
    rw [q_X0_giveLeastFree_L4] at h
    refine x_iload_n (pc := 4) K dX0_giveLeastFree_4 3 rfl rfl ?_
    refine x_bipush (v := 10) (pc := 5) K dX0_giveLeastFree_5 (by decide) ?_
    refine x_icmp_ge (pc := 7) K dX0_giveLeastFree_7 (tgt := 51) (by decide) (fun c9 => ?_) (fun c9 => ?_)
    · have h := h.1 c9
      refine x_keep [false, false, true, false] rfl ?_
      exact k0 x2 worn h
    · have h := h.2 c9
      refine x_iload_n (pc := 10) K dX0_giveLeastFree_10 1 rfl rfl ?_
      refine x_iload_n (pc := 11) K dX0_giveLeastFree_11 3 rfl rfl ?_
      refine x_pcallSz (pc := 12) (n := 2) K (c_X0_has l D cI cJ cZ cA u1 x3 _ h) rfl rfl gX0_giveLeastFree_X0_has rfl (by decide +kernel) ⟨Nat.le_of_ble_eq_true rfl, Nat.le_of_ble_eq_true rfl⟩ rfl (av := [.int u1, .int x3]) rfl (Nat.le_of_ble_eq_true rfl) dX0_giveLeastFree_12 ⟨Nat.le_of_ble_eq_true rfl, Nat.le_of_ble_eq_true rfl⟩ (fun r1 u9 h => ?_)
      refine x_if_eq (pc := 15) K dX0_giveLeastFree_15 (tgt := 45) (by decide) (fun c9 => ?_) (fun c9 => ?_)
      · have h := h.1 c9
        refine x_iinc (v := x3 + 1) (lv' := [(0, .ref (V 0)), (1, .int u1), (2, .int x2), (3, .int (x3 + 1))]) (pc := 45) K dX0_giveLeastFree_45 (k := 3) rfl rfl (by decide) rfl ?_
        refine x_goto (pc := 48) K dX0_giveLeastFree_48 (tgt := 4) (by decide) ?_
        exact ih x2 (x3 + 1) worn h k0
      · have h := h.2 c9
        refine x_aload_n (pc := 18) K dX0_giveLeastFree_18 0 rfl rfl ?_
        refine x_get (pc := 19) (ci := 0) (C := RX0) (T := TX0) (N := 8) K (inX0_giveLeastFree) 0 rfl rfl 3 (by decide) kX0_giveLeastFree_0 rfl rfl dX0_giveLeastFree_19 ?_
        refine x_iload_n (pc := 22) K dX0_giveLeastFree_22 3 rfl rfl ?_
        refine x_aload_n (pc := 23) K dX0_giveLeastFree_23 0 rfl rfl ?_
        refine x_aload_n (pc := 24) K dX0_giveLeastFree_24 0 rfl rfl ?_
        refine x_get (pc := 25) (ci := 0) (C := RX0) (T := TX0) (N := 8) K (inX0_giveLeastFree) 0 rfl rfl 2 (by decide) kX0_giveLeastFree_1 rfl rfl dX0_giveLeastFree_25 ?_
        refine x_iload_n (pc := 28) K dX0_giveLeastFree_28 3 rfl rfl ?_
        have g9 := h.1
        replace h := h.2
        refine x_iald (pc := 29) K 2 0 rfl rfl g9 dX0_giveLeastFree_29 ?_
        clear g9
        refine x_callVi (pc := 30) (n := 1) K (c_X0_leastFreeBeside l D cI cJ cZ cA V (near x3.toNatClampNeg) land there near worn trial fits ways _ h) rfl rfl gX0_giveLeastFree_X0_leastFreeBeside rfl (by decide +kernel) ⟨Nat.le_of_ble_eq_true rfl, Nat.le_of_ble_eq_true rfl⟩ rfl (av := [.int (near x3.toNatClampNeg)]) (b := V 0) (ci := 0) (q0 := 0) rfl rfl rfl (Nat.le_of_ble_eq_true rfl) [0, 1, 2, 3, 4, 5, 6] [] (wr := []) rfl rfl rfl rfl (by decide) dX0_giveLeastFree_30 ⟨Nat.le_of_ble_eq_true rfl, Nat.le_of_ble_eq_true rfl⟩ (fun r2 u9 h => ?_)
        refine x_ws (ws' := (wX0 cI cJ cZ cA V land there near worn trial fits ways)) rfl ?_
        have g9 := h.1
        replace h := h.2
        refine x_iast (ws' := (wX0 cI cJ cZ cA V land there near (upd worn x3.toNatClampNeg r2) trial fits ways)) (pc := 33) K 3 0 rfl rfl rfl g9 dX0_giveLeastFree_33 ?_
        clear g9
        refine x_iload_n (pc := 34) K dX0_giveLeastFree_34 2 rfl rfl ?_
        refine x_aload_n (pc := 35) K dX0_giveLeastFree_35 0 rfl rfl ?_
        refine x_get (pc := 36) (ci := 0) (C := RX0) (T := TX0) (N := 8) K (inX0_giveLeastFree) 0 rfl rfl 3 (by decide) kX0_giveLeastFree_0 rfl rfl dX0_giveLeastFree_36 ?_
        refine x_iload_n (pc := 39) K dX0_giveLeastFree_39 3 rfl rfl ?_
        have g9 := h.1
        replace h := h.2
        refine x_iald (pc := 40) K 3 0 rfl rfl g9 dX0_giveLeastFree_40 ?_
        clear g9
        refine x_mmax (pc := 41) K kX0_giveLeastFree_2 kX0_giveLeastFree_3 kX0_giveLeastFree_4 kX0_giveLeastFree_5 ⟨Nat.le_of_ble_eq_true rfl, Nat.le_of_ble_eq_true rfl⟩ ⟨Nat.le_of_ble_eq_true rfl, Nat.le_of_ble_eq_true rfl⟩ dX0_giveLeastFree_41 ?_
        obtain ⟨y4, ey4, h⟩ := xl_o h
        refine x_topi ey4 ?_
        clear ey4
        refine x_istore_n (lv' := [(0, .ref (V 0)), (1, .int u1), (2, .int y4), (3, .int x3)]) (pc := 44) K dX0_giveLeastFree_44 rfl (by decide) rfl ?_
        refine x_iinc (v := x3 + 1) (lv' := [(0, .ref (V 0)), (1, .int u1), (2, .int y4), (3, .int (x3 + 1))]) (pc := 45) K dX0_giveLeastFree_45 (k := 3) rfl rfl (by decide) rfl ?_
        refine x_goto (pc := 48) K dX0_giveLeastFree_48 (tgt := 4) (by decide) ?_
        exact ih y4 (x3 + 1) (upd worn x3.toNatClampNeg r2) h k0
set_option maxHeartbeats 4000000 in
set_option maxRecDepth 100000 in
theorem c_X0_giveLeastFree (l : Launch) (D : va_G) (cI cJ cZ cA : ClassId) (V : Nat → Nat) (p1 : Int32) (land : Nat → Int64) (there : Int32) (near : Nat → Int32) (worn : Nat → Int32) (trial : Nat → Int32) (fits : Nat → Int32) (ways : Nat → Int64) (P : Int32 → (Nat → Int32) → Prop) (h : q_X0_giveLeastFree p1 near worn P) : xMi l yX0_giveLeastFree wsX0_giveLeastFree rm_X0_giveLeastFree D vwCl (xtys cI cJ cZ cA) (wX0 cI cJ cZ cA V land there near worn trial fits ways) [.ref (V 0), .int p1] (σ := (Nat → Int32)) (fun u => (wX0 cI cJ cZ cA V land there near u trial fits ways)) (fun r u => P r u) := by
  refine xMi_of (cc := cX0_giveLeastFree) (maxL := 4) (by decide) rfl (Nat.le_of_ble_eq_true rfl) ?_
  intro X K hE
  have K : xk X l rm_X0_giveLeastFree D vwCl (xtys cI cJ cZ cA) cX0_giveLeastFree RX0 wsX0_giveLeastFree 4 := K
  unfold q_X0_giveLeastFree at h
  refine x_iconst (v := 0) (pc := 0) K dX0_giveLeastFree_0 (by decide) ?_
  refine x_istore_n (lv' := [(0, .ref (V 0)), (1, .int p1), (2, .int 0)]) (pc := 1) K dX0_giveLeastFree_1 rfl (by decide) rfl ?_
  refine x_iconst (v := 0) (pc := 2) K dX0_giveLeastFree_2 (by decide) ?_
  refine x_istore_n (lv' := [(0, .ref (V 0)), (1, .int p1), (2, .int 0), (3, .int 0)]) (pc := 3) K dX0_giveLeastFree_3 rfl (by decide) rfl ?_
  obtain ⟨n5, h⟩ := h
  refine w_X0_giveLeastFree_L4 K p1 land there near trial fits ways _ n5 0 0 worn h (fun v6 v7 h => ?_)
  refine x_iload_n (pc := 51) K dX0_giveLeastFree_51 0 rfl rfl ?_
  exact hE v6 v7 _ _ h dX0_giveLeastFree_52
abbrev rm_X0_chainOf : Room := { frames := 9, cells := 0, slots := 0, locals := 160 }
theorem inX0_chainOf : ∀ w ∈ u_ws RX0 TX0 8, w ∈ wsX0_chainOf := by decide +kernel
theorem kX0_chainOf_0 : Cond.fieldLink RX0 13 "FourTints" "there" "I" ∈ wsX0_chainOf := by decide +kernel
theorem kX0_chainOf_1 : Cond.fieldLink RX0 21 "FourTints" "worn" "[I" ∈ wsX0_chainOf := by decide +kernel
theorem kX0_chainOf_2 : Cond.fieldLink RX0 17 "FourTints" "near" "[I" ∈ wsX0_chainOf := by decide +kernel
def q_X0_chainOf_L44 (u3 : Int32) (u4 : Int32) (near : Nat → Int32) (P0 : Int32 → Prop) : Nat → Int32 → Int32 → Prop
  | 0, _, _ => False
  | n + 1, x6, x7 => ((10 ≤ x7 → P0 x6) ∧ (¬ 10 ≤ x7 → q_X0_has u4 x7 (fun (r5 : Int32) => ((r5 = 0 → q_X0_chainOf_L44 u3 u4 near P0 n x6 (x7 + 1)) ∧ (¬ r5 = 0 → xin x7 10 = true ∧ xl (x6 ||| ((near x7.toNatClampNeg) &&& u3)) (fun y6 => q_X0_chainOf_L44 u3 u4 near P0 n y6 (x7 + 1)))))))
def q_X0_chainOf_L30 (u3 : Int32) (near : Nat → Int32) (P0 : Int32 → Prop) : Nat → Int32 → Int32 → Prop
  | 0, _, _ => False
  | n + 1, x4, x5 => ((10 ≤ x5 → P0 x4) ∧ (¬ 10 ≤ x5 → (∃ n7 : Nat, q_X0_chainOf_L44 u3 x4 near (fun (v8 : Int32) => q_X0_chainOf_L30 u3 near P0 n v8 (x5 + 1)) n7 x4 0)))
def q_X0_chainOf (p1 : Int32) (p2 : Int32) (there : Int32) (near : Nat → Int32) (worn : Nat → Int32) (P : Int32 → Prop) : Prop := xin p1 10 = true ∧ q_X0_wearing (worn p1.toNatClampNeg) worn (fun (r1 : Int32) => q_X0_wearing p2 worn (fun (r2 : Int32) => xl (there &&& (r1 ||| r2)) (fun y3 => xl (1 <<< (p1 &&& 31)) (fun y4 => (∃ n9 : Nat, q_X0_chainOf_L30 y3 near (fun (v10 : Int32) => P v10) n9 y4 0)))))
set_option maxHeartbeats 4000000 in
set_option maxRecDepth 100000 in
theorem w_X0_chainOf_L44 {X : xC} {l : Launch} {D : va_G} {cI cJ cZ cA : ClassId} {V : Nat → Nat} (K : xk X l rm_X0_chainOf D vwCl (xtys cI cJ cZ cA) cX0_chainOf RX0 wsX0_chainOf 8) (u3 : Int32) (u4 : Int32) (u5 : Int32) (land : Nat → Int64) (there : Int32) (near : Nat → Int32) (worn : Nat → Int32) (trial : Nat → Int32) (fits : Nat → Int32) (ways : Nat → Int64) (P0 : Int32 → Prop) : ∀ (n : Nat) (x6 : Int32) (x7 : Int32), q_X0_chainOf_L44 u3 u4 near P0 n x6 x7 → (∀ (z0 : Int32), P0 z0 → xw X 0 0 81 [(0, .ref (V 0)), (3, .int u3), (5, .int u5), (6, .int z0)] [] (wX0 cI cJ cZ cA V land there near worn trial fits ways)) → xw X 0 0 44 [(0, .ref (V 0)), (3, .int u3), (4, .int u4), (5, .int u5), (6, .int x6), (7, .int x7)] [] (wX0 cI cJ cZ cA V land there near worn trial fits ways) := by
  intro n
  induction n with
  | zero =>
    intro x6 x7 h
    rw [q_X0_chainOf_L44] at h
    exact h.elim
  | succ n ih =>
    intro x6 x7 h k0
    rw [q_X0_chainOf_L44] at h
    refine x_iload (pc := 44) K dX0_chainOf_44 5 rfl ?_
    refine x_bipush (v := 10) (pc := 46) K dX0_chainOf_46 (by decide) ?_
    refine x_icmp_ge (pc := 48) K dX0_chainOf_48 (tgt := 81) (by decide) (fun c9 => ?_) (fun c9 => ?_)
    · have h := h.1 c9
      refine x_keep [true, true, false, true, true, false] rfl ?_
      exact k0 x6 h
    · have h := h.2 c9
      refine x_iload (pc := 51) K dX0_chainOf_51 2 rfl ?_
      refine x_iload (pc := 53) K dX0_chainOf_53 5 rfl ?_
      refine x_pcallSz (pc := 55) (n := 2) K (c_X0_has l D cI cJ cZ cA u4 x7 _ h) rfl rfl gX0_chainOf_X0_has rfl (by decide +kernel) ⟨Nat.le_of_ble_eq_true rfl, Nat.le_of_ble_eq_true rfl⟩ rfl (av := [.int u4, .int x7]) rfl (Nat.le_of_ble_eq_true rfl) dX0_chainOf_55 ⟨Nat.le_of_ble_eq_true rfl, Nat.le_of_ble_eq_true rfl⟩ (fun r5 u9 h => ?_)
      refine x_if_eq (pc := 58) K dX0_chainOf_58 (tgt := 75) (by decide) (fun c9 => ?_) (fun c9 => ?_)
      · have h := h.1 c9
        refine x_iinc (v := x7 + 1) (lv' := [(0, .ref (V 0)), (3, .int u3), (4, .int u4), (5, .int u5), (6, .int x6), (7, .int (x7 + 1))]) (pc := 75) K dX0_chainOf_75 (k := 5) rfl rfl (by decide) rfl ?_
        refine x_goto (pc := 78) K dX0_chainOf_78 (tgt := 44) (by decide) ?_
        exact ih x6 (x7 + 1) h k0
      · have h := h.2 c9
        refine x_iload (pc := 61) K dX0_chainOf_61 4 rfl ?_
        refine x_aload_n (pc := 63) K dX0_chainOf_63 0 rfl rfl ?_
        refine x_get (pc := 64) (ci := 0) (C := RX0) (T := TX0) (N := 8) K (inX0_chainOf) 0 rfl rfl 2 (by decide) kX0_chainOf_2 rfl rfl dX0_chainOf_64 ?_
        refine x_iload (pc := 67) K dX0_chainOf_67 5 rfl ?_
        have g9 := h.1
        replace h := h.2
        refine x_iald (pc := 69) K 2 0 rfl rfl g9 dX0_chainOf_69 ?_
        clear g9
        refine x_iload_n (pc := 70) K dX0_chainOf_70 1 rfl rfl ?_
        refine x_iand (pc := 71) K dX0_chainOf_71 ?_
        refine x_ior (pc := 72) K dX0_chainOf_72 ?_
        obtain ⟨y6, ey6, h⟩ := xl_o h
        refine x_topi ey6 ?_
        clear ey6
        refine x_istore (lv' := [(0, .ref (V 0)), (3, .int u3), (4, .int u4), (5, .int u5), (6, .int y6), (7, .int x7)]) (pc := 73) K dX0_chainOf_73 (by decide) rfl ?_
        refine x_iinc (v := x7 + 1) (lv' := [(0, .ref (V 0)), (3, .int u3), (4, .int u4), (5, .int u5), (6, .int y6), (7, .int (x7 + 1))]) (pc := 75) K dX0_chainOf_75 (k := 5) rfl rfl (by decide) rfl ?_
        refine x_goto (pc := 78) K dX0_chainOf_78 (tgt := 44) (by decide) ?_
        exact ih y6 (x7 + 1) h k0
set_option maxHeartbeats 4000000 in
set_option maxRecDepth 100000 in
theorem w_X0_chainOf_L30 {X : xC} {l : Launch} {D : va_G} {cI cJ cZ cA : ClassId} {V : Nat → Nat} (K : xk X l rm_X0_chainOf D vwCl (xtys cI cJ cZ cA) cX0_chainOf RX0 wsX0_chainOf 8) (u3 : Int32) (land : Nat → Int64) (there : Int32) (near : Nat → Int32) (worn : Nat → Int32) (trial : Nat → Int32) (fits : Nat → Int32) (ways : Nat → Int64) (P0 : Int32 → Prop) : ∀ (n : Nat) (x4 : Int32) (x5 : Int32), q_X0_chainOf_L30 u3 near P0 n x4 x5 → (∀ (z0 : Int32), P0 z0 → xw X 0 0 91 [(4, .int z0)] [] (wX0 cI cJ cZ cA V land there near worn trial fits ways)) → xw X 0 0 30 [(0, .ref (V 0)), (3, .int u3), (4, .int x4), (5, .int x5)] [] (wX0 cI cJ cZ cA V land there near worn trial fits ways) := by
  intro n
  induction n with
  | zero =>
    intro x4 x5 h
    rw [q_X0_chainOf_L30] at h
    exact h.elim
  | succ n ih =>
    intro x4 x5 h k0
    rw [q_X0_chainOf_L30] at h
    refine x_iload (pc := 30) K dX0_chainOf_30 3 rfl ?_
    refine x_bipush (v := 10) (pc := 32) K dX0_chainOf_32 (by decide) ?_
    refine x_icmp_ge (pc := 34) K dX0_chainOf_34 (tgt := 91) (by decide) (fun c9 => ?_) (fun c9 => ?_)
    · have h := h.1 c9
      refine x_keep [false, false, true, false] rfl ?_
      exact k0 x4 h
    · have h := h.2 c9
      refine x_iload (pc := 37) K dX0_chainOf_37 2 rfl ?_
      refine x_istore (lv' := [(0, .ref (V 0)), (3, .int u3), (4, .int x4), (5, .int x5), (6, .int x4)]) (pc := 39) K dX0_chainOf_39 (by decide) rfl ?_
      refine x_iconst (v := 0) (pc := 41) K dX0_chainOf_41 (by decide) ?_
      refine x_istore (lv' := [(0, .ref (V 0)), (3, .int u3), (4, .int x4), (5, .int x5), (6, .int x4), (7, .int 0)]) (pc := 42) K dX0_chainOf_42 (by decide) rfl ?_
      obtain ⟨n7, h⟩ := h
      refine w_X0_chainOf_L44 K u3 x4 x5 land there near worn trial fits ways _ n7 x4 0 h (fun v8 h => ?_)
      refine x_iload (pc := 81) K dX0_chainOf_81 3 rfl ?_
      refine x_istore (lv' := [(0, .ref (V 0)), (3, .int u3), (4, .int v8), (5, .int x5), (6, .int v8)]) (pc := 83) K dX0_chainOf_83 (by decide) rfl ?_
      refine x_iinc (v := x5 + 1) (lv' := [(0, .ref (V 0)), (3, .int u3), (4, .int v8), (5, .int (x5 + 1)), (6, .int v8)]) (pc := 85) K dX0_chainOf_85 (k := 3) rfl rfl (by decide) rfl ?_
      refine x_goto (pc := 88) K dX0_chainOf_88 (tgt := 30) (by decide) ?_
      refine x_keep [true, true, true, true, false] rfl ?_
      exact ih v8 (x5 + 1) h k0
set_option maxHeartbeats 4000000 in
set_option maxRecDepth 100000 in
theorem c_X0_chainOf (l : Launch) (D : va_G) (cI cJ cZ cA : ClassId) (V : Nat → Nat) (p1 : Int32) (p2 : Int32) (land : Nat → Int64) (there : Int32) (near : Nat → Int32) (worn : Nat → Int32) (trial : Nat → Int32) (fits : Nat → Int32) (ways : Nat → Int64) (P : Int32 → Prop) (h : q_X0_chainOf p1 p2 there near worn P) : xMi l yX0_chainOf wsX0_chainOf rm_X0_chainOf D vwCl (xtys cI cJ cZ cA) (wX0 cI cJ cZ cA V land there near worn trial fits ways) [.ref (V 0), .int p1, .int p2] (σ := Unit) (fun _ => (wX0 cI cJ cZ cA V land there near worn trial fits ways)) (fun r _ => P r) := by
  refine xMi_of (cc := cX0_chainOf) (maxL := 8) (by decide) rfl (Nat.le_of_ble_eq_true rfl) ?_
  intro X K hE
  have K : xk X l rm_X0_chainOf D vwCl (xtys cI cJ cZ cA) cX0_chainOf RX0 wsX0_chainOf 8 := K
  unfold q_X0_chainOf at h
  refine x_aload_n (pc := 0) K dX0_chainOf_0 0 rfl rfl ?_
  refine x_get (pc := 1) (ci := 0) (C := RX0) (T := TX0) (N := 8) K (inX0_chainOf) 0 rfl rfl 1 (by decide) kX0_chainOf_0 rfl rfl dX0_chainOf_1 ?_
  refine x_aload_n (pc := 4) K dX0_chainOf_4 0 rfl rfl ?_
  refine x_aload_n (pc := 5) K dX0_chainOf_5 0 rfl rfl ?_
  refine x_get (pc := 6) (ci := 0) (C := RX0) (T := TX0) (N := 8) K (inX0_chainOf) 0 rfl rfl 3 (by decide) kX0_chainOf_1 rfl rfl dX0_chainOf_6 ?_
  refine x_iload_n (pc := 9) K dX0_chainOf_9 1 rfl rfl ?_
  have g9 := h.1
  replace h := h.2
  refine x_iald (pc := 10) K 3 0 rfl rfl g9 dX0_chainOf_10 ?_
  clear g9
  refine x_callVi (pc := 11) (n := 1) K (c_X0_wearing l D cI cJ cZ cA V (worn p1.toNatClampNeg) land there near worn trial fits ways _ h) rfl rfl gX0_chainOf_X0_wearing rfl (by decide +kernel) ⟨Nat.le_of_ble_eq_true rfl, Nat.le_of_ble_eq_true rfl⟩ rfl (av := [.int (worn p1.toNatClampNeg)]) (b := V 0) (ci := 0) (q0 := 0) rfl rfl rfl (Nat.le_of_ble_eq_true rfl) [0, 1, 2, 3, 4, 5, 6] [] (wr := []) rfl rfl rfl rfl (by decide) dX0_chainOf_11 ⟨Nat.le_of_ble_eq_true rfl, Nat.le_of_ble_eq_true rfl⟩ (fun r1 u9 h => ?_)
  refine x_ws (ws' := (wX0 cI cJ cZ cA V land there near worn trial fits ways)) rfl ?_
  refine x_aload_n (pc := 14) K dX0_chainOf_14 0 rfl rfl ?_
  refine x_iload_n (pc := 15) K dX0_chainOf_15 2 rfl rfl ?_
  refine x_callVi (pc := 16) (n := 1) K (c_X0_wearing l D cI cJ cZ cA V p2 land there near worn trial fits ways _ h) rfl rfl gX0_chainOf_X0_wearing rfl (by decide +kernel) ⟨Nat.le_of_ble_eq_true rfl, Nat.le_of_ble_eq_true rfl⟩ rfl (av := [.int p2]) (b := V 0) (ci := 0) (q0 := 0) rfl rfl rfl (Nat.le_of_ble_eq_true rfl) [0, 1, 2, 3, 4, 5, 6] [] (wr := []) rfl rfl rfl rfl (by decide) dX0_chainOf_16 ⟨Nat.le_of_ble_eq_true rfl, Nat.le_of_ble_eq_true rfl⟩ (fun r2 u9 h => ?_)
  refine x_ws (ws' := (wX0 cI cJ cZ cA V land there near worn trial fits ways)) rfl ?_
  refine x_ior (pc := 19) K dX0_chainOf_19 ?_
  refine x_iand (pc := 20) K dX0_chainOf_20 ?_
  obtain ⟨y3, ey3, h⟩ := xl_o h
  refine x_topi ey3 ?_
  clear ey3
  refine x_istore_n (lv' := [(0, .ref (V 0)), (1, .int p1), (2, .int p2), (3, .int y3)]) (pc := 21) K dX0_chainOf_21 rfl (by decide) rfl ?_
  refine x_iconst (v := 1) (pc := 22) K dX0_chainOf_22 (by decide) ?_
  refine x_iload_n (pc := 23) K dX0_chainOf_23 1 rfl rfl ?_
  refine x_ishl (pc := 24) K dX0_chainOf_24 ?_
  obtain ⟨y4, ey4, h⟩ := xl_o h
  refine x_topi ey4 ?_
  clear ey4
  refine x_istore (lv' := [(0, .ref (V 0)), (1, .int p1), (2, .int p2), (3, .int y3), (4, .int y4)]) (pc := 25) K dX0_chainOf_25 (by decide) rfl ?_
  refine x_iconst (v := 0) (pc := 27) K dX0_chainOf_27 (by decide) ?_
  refine x_istore (lv' := [(0, .ref (V 0)), (1, .int p1), (2, .int p2), (3, .int y3), (4, .int y4), (5, .int 0)]) (pc := 28) K dX0_chainOf_28 (by decide) rfl ?_
  refine x_keep [true, false, false, true, true, true] rfl ?_
  obtain ⟨n9, h⟩ := h
  refine w_X0_chainOf_L30 K y3 land there near worn trial fits ways _ n9 y4 0 h (fun v10 h => ?_)
  refine x_iload (pc := 91) K dX0_chainOf_91 0 rfl ?_
  exact hE v10 () _ _ h dX0_chainOf_93
abbrev rm_X0_markSetsOfNeighbours : Room := { frames := 8, cells := 0, slots := 0, locals := 120 }
theorem inX0_markSetsOfNeighbours : ∀ w ∈ u_ws RX0 TX0 8, w ∈ wsX0_markSetsOfNeighbours := by decide +kernel
theorem kX0_markSetsOfNeighbours_0 : Cond.fieldLink RX0 27 "FourTints" "fits" "[Z" ∈ wsX0_markSetsOfNeighbours := by decide +kernel
theorem kX0_markSetsOfNeighbours_1 : Cond.fieldLink RX0 17 "FourTints" "near" "[I" ∈ wsX0_markSetsOfNeighbours := by decide +kernel
def q_X0_markSetsOfNeighbours_L17 (u1 : Int32) (near : Nat → Int32) (P0 : (Nat → Int32) → Prop) : Nat → Int32 → (Nat → Int32) → Prop
  | 0, _, _ => False
  | n + 1, x2, fits => (((1 <<< (u1 &&& 31)) ≤ x2 → P0 fits) ∧ (¬ (1 <<< (u1 &&& 31)) ≤ x2 → xin x2 1024 = true ∧ (((fits x2.toNatClampNeg) = 0 → xin (x2 ||| (1 <<< (u1 &&& 31))) 1024 = true ∧ q_X0_markSetsOfNeighbours_L17 u1 near P0 n (x2 + 1) (upd fits ((x2 ||| (1 <<< (u1 &&& 31))).toNatClampNeg) (vp_nar .boolean 0))) ∧ (¬ (fits x2.toNatClampNeg) = 0 → xin u1 10 = true ∧ ((¬ (x2 &&& ((near u1.toNatClampNeg) ^^^ (-1))) = 0 → xin (x2 ||| (1 <<< (u1 &&& 31))) 1024 = true ∧ q_X0_markSetsOfNeighbours_L17 u1 near P0 n (x2 + 1) (upd fits ((x2 ||| (1 <<< (u1 &&& 31))).toNatClampNeg) (vp_nar .boolean 0))) ∧ ((x2 &&& ((near u1.toNatClampNeg) ^^^ (-1))) = 0 → xin (x2 ||| (1 <<< (u1 &&& 31))) 1024 = true ∧ q_X0_markSetsOfNeighbours_L17 u1 near P0 n (x2 + 1) (upd fits ((x2 ||| (1 <<< (u1 &&& 31))).toNatClampNeg) (vp_nar .boolean 1))))))))
def q_X0_markSetsOfNeighbours_L9 (near : Nat → Int32) (P0 : (Nat → Int32) → Prop) : Nat → Int32 → (Nat → Int32) → Prop
  | 0, _, _ => False
  | n + 1, x1, fits => ((10 ≤ x1 → P0 fits) ∧ (¬ 10 ≤ x1 → (∃ n5 : Nat, q_X0_markSetsOfNeighbours_L17 x1 near (fun (v6 : Nat → Int32) => q_X0_markSetsOfNeighbours_L9 near P0 n (x1 + 1) v6) n5 0 fits)))
def q_X0_markSetsOfNeighbours (near : Nat → Int32) (fits : Nat → Int32) (P : (Nat → Int32) → Prop) : Prop := xin 0 1024 = true ∧ (∃ n7 : Nat, q_X0_markSetsOfNeighbours_L9 near (fun (v8 : Nat → Int32) => P v8) n7 0 (upd fits ((0 : Int32).toNatClampNeg) (vp_nar .boolean 1)))
set_option maxHeartbeats 4000000 in
set_option maxRecDepth 100000 in
theorem w_X0_markSetsOfNeighbours_L17 {X : xC} {l : Launch} {D : va_G} {cI cJ cZ cA : ClassId} {V : Nat → Nat} (K : xk X l rm_X0_markSetsOfNeighbours D vwCl (xtys cI cJ cZ cA) cX0_markSetsOfNeighbours RX0 wsX0_markSetsOfNeighbours 3) (u1 : Int32) (land : Nat → Int64) (there : Int32) (near : Nat → Int32) (worn : Nat → Int32) (trial : Nat → Int32) (ways : Nat → Int64) (P0 : (Nat → Int32) → Prop) : ∀ (n : Nat) (x2 : Int32) (fits : Nat → Int32), q_X0_markSetsOfNeighbours_L17 u1 near P0 n x2 fits → (∀ (z0 : Nat → Int32), P0 z0 → xw X 0 0 67 [(0, .ref (V 0)), (1, .int u1)] [] (wX0 cI cJ cZ cA V land there near worn trial z0 ways)) → xw X 0 0 17 [(0, .ref (V 0)), (1, .int u1), (2, .int x2)] [] (wX0 cI cJ cZ cA V land there near worn trial fits ways) := by
  intro n
  induction n with
  | zero =>
    intro x2 fits h
    rw [q_X0_markSetsOfNeighbours_L17] at h
    exact h.elim
  | succ n ih =>
    intro x2 fits h k0
    rw [q_X0_markSetsOfNeighbours_L17] at h
    refine x_iload_n (pc := 17) K dX0_markSetsOfNeighbours_17 2 rfl rfl ?_
    refine x_iconst (v := 1) (pc := 18) K dX0_markSetsOfNeighbours_18 (by decide) ?_
    refine x_iload_n (pc := 19) K dX0_markSetsOfNeighbours_19 1 rfl rfl ?_
    refine x_ishl (pc := 20) K dX0_markSetsOfNeighbours_20 ?_
    refine x_icmp_ge (pc := 21) K dX0_markSetsOfNeighbours_21 (tgt := 67) (by decide) (fun c9 => ?_) (fun c9 => ?_)
    · have h := h.1 c9
      refine x_keep [true, true, false] rfl ?_
      exact k0 fits h
    · have h := h.2 c9
      refine x_aload_n (pc := 24) K dX0_markSetsOfNeighbours_24 0 rfl rfl ?_
      refine x_get (pc := 25) (ci := 0) (C := RX0) (T := TX0) (N := 8) K (inX0_markSetsOfNeighbours) 0 rfl rfl 5 (by decide) kX0_markSetsOfNeighbours_0 rfl rfl dX0_markSetsOfNeighbours_25 ?_
      refine x_iload_n (pc := 28) K dX0_markSetsOfNeighbours_28 2 rfl rfl ?_
      refine x_iconst (v := 1) (pc := 29) K dX0_markSetsOfNeighbours_29 (by decide) ?_
      refine x_iload_n (pc := 30) K dX0_markSetsOfNeighbours_30 1 rfl rfl ?_
      refine x_ishl (pc := 31) K dX0_markSetsOfNeighbours_31 ?_
      refine x_ior (pc := 32) K dX0_markSetsOfNeighbours_32 ?_
      refine x_aload_n (pc := 33) K dX0_markSetsOfNeighbours_33 0 rfl rfl ?_
      refine x_get (pc := 34) (ci := 0) (C := RX0) (T := TX0) (N := 8) K (inX0_markSetsOfNeighbours) 0 rfl rfl 5 (by decide) kX0_markSetsOfNeighbours_0 rfl rfl dX0_markSetsOfNeighbours_34 ?_
      refine x_iload_n (pc := 37) K dX0_markSetsOfNeighbours_37 2 rfl rfl ?_
      have g9 := h.1
      replace h := h.2
      refine x_zald (pc := 38) K 5 2 rfl rfl g9 dX0_markSetsOfNeighbours_38 ?_
      clear g9
      refine x_if_eq (pc := 39) K dX0_markSetsOfNeighbours_39 (tgt := 59) (by decide) (fun c9 => ?_) (fun c9 => ?_)
      · have h := h.1 c9
        refine x_iconst (v := 0) (pc := 59) K dX0_markSetsOfNeighbours_59 (by decide) ?_
        have g9 := h.1
        replace h := h.2
        refine x_zast (ws' := (wX0 cI cJ cZ cA V land there near worn trial (upd fits ((x2 ||| (1 <<< (u1 &&& 31))).toNatClampNeg) (vp_nar .boolean 0)) ways)) (pc := 60) K 5 2 rfl rfl rfl g9 dX0_markSetsOfNeighbours_60 ?_
        clear g9
        refine x_iinc (v := x2 + 1) (lv' := [(0, .ref (V 0)), (1, .int u1), (2, .int (x2 + 1))]) (pc := 61) K dX0_markSetsOfNeighbours_61 (k := 2) rfl rfl (by decide) rfl ?_
        refine x_goto (pc := 64) K dX0_markSetsOfNeighbours_64 (tgt := 17) (by decide) ?_
        exact ih (x2 + 1) (upd fits ((x2 ||| (1 <<< (u1 &&& 31))).toNatClampNeg) (vp_nar .boolean 0)) h k0
      · have h := h.2 c9
        refine x_iload_n (pc := 42) K dX0_markSetsOfNeighbours_42 2 rfl rfl ?_
        refine x_aload_n (pc := 43) K dX0_markSetsOfNeighbours_43 0 rfl rfl ?_
        refine x_get (pc := 44) (ci := 0) (C := RX0) (T := TX0) (N := 8) K (inX0_markSetsOfNeighbours) 0 rfl rfl 2 (by decide) kX0_markSetsOfNeighbours_1 rfl rfl dX0_markSetsOfNeighbours_44 ?_
        refine x_iload_n (pc := 47) K dX0_markSetsOfNeighbours_47 1 rfl rfl ?_
        have g9 := h.1
        replace h := h.2
        refine x_iald (pc := 48) K 2 0 rfl rfl g9 dX0_markSetsOfNeighbours_48 ?_
        clear g9
        refine x_iconst (v := (-1)) (pc := 49) K dX0_markSetsOfNeighbours_49 (by decide) ?_
        refine x_ixor (pc := 50) K dX0_markSetsOfNeighbours_50 ?_
        refine x_iand (pc := 51) K dX0_markSetsOfNeighbours_51 ?_
        refine x_if_ne (pc := 52) K dX0_markSetsOfNeighbours_52 (tgt := 59) (by decide) (fun c9 => ?_) (fun c9 => ?_)
        · have h := h.1 c9
          refine x_iconst (v := 0) (pc := 59) K dX0_markSetsOfNeighbours_59 (by decide) ?_
          have g9 := h.1
          replace h := h.2
          refine x_zast (ws' := (wX0 cI cJ cZ cA V land there near worn trial (upd fits ((x2 ||| (1 <<< (u1 &&& 31))).toNatClampNeg) (vp_nar .boolean 0)) ways)) (pc := 60) K 5 2 rfl rfl rfl g9 dX0_markSetsOfNeighbours_60 ?_
          clear g9
          refine x_iinc (v := x2 + 1) (lv' := [(0, .ref (V 0)), (1, .int u1), (2, .int (x2 + 1))]) (pc := 61) K dX0_markSetsOfNeighbours_61 (k := 2) rfl rfl (by decide) rfl ?_
          refine x_goto (pc := 64) K dX0_markSetsOfNeighbours_64 (tgt := 17) (by decide) ?_
          exact ih (x2 + 1) (upd fits ((x2 ||| (1 <<< (u1 &&& 31))).toNatClampNeg) (vp_nar .boolean 0)) h k0
        · have h := h.2 c9
          refine x_iconst (v := 1) (pc := 55) K dX0_markSetsOfNeighbours_55 (by decide) ?_
          refine x_goto (pc := 56) K dX0_markSetsOfNeighbours_56 (tgt := 60) (by decide) ?_
          have g9 := h.1
          replace h := h.2
          refine x_zast (ws' := (wX0 cI cJ cZ cA V land there near worn trial (upd fits ((x2 ||| (1 <<< (u1 &&& 31))).toNatClampNeg) (vp_nar .boolean 1)) ways)) (pc := 60) K 5 2 rfl rfl rfl g9 dX0_markSetsOfNeighbours_60 ?_
          clear g9
          refine x_iinc (v := x2 + 1) (lv' := [(0, .ref (V 0)), (1, .int u1), (2, .int (x2 + 1))]) (pc := 61) K dX0_markSetsOfNeighbours_61 (k := 2) rfl rfl (by decide) rfl ?_
          refine x_goto (pc := 64) K dX0_markSetsOfNeighbours_64 (tgt := 17) (by decide) ?_
          exact ih (x2 + 1) (upd fits ((x2 ||| (1 <<< (u1 &&& 31))).toNatClampNeg) (vp_nar .boolean 1)) h k0
set_option maxHeartbeats 4000000 in
set_option maxRecDepth 100000 in
theorem w_X0_markSetsOfNeighbours_L9 {X : xC} {l : Launch} {D : va_G} {cI cJ cZ cA : ClassId} {V : Nat → Nat} (K : xk X l rm_X0_markSetsOfNeighbours D vwCl (xtys cI cJ cZ cA) cX0_markSetsOfNeighbours RX0 wsX0_markSetsOfNeighbours 3) (land : Nat → Int64) (there : Int32) (near : Nat → Int32) (worn : Nat → Int32) (trial : Nat → Int32) (ways : Nat → Int64) (P0 : (Nat → Int32) → Prop) : ∀ (n : Nat) (x1 : Int32) (fits : Nat → Int32), q_X0_markSetsOfNeighbours_L9 near P0 n x1 fits → (∀ (z0 : Nat → Int32), P0 z0 → xw X 0 0 73 [] [] (wX0 cI cJ cZ cA V land there near worn trial z0 ways)) → xw X 0 0 9 [(0, .ref (V 0)), (1, .int x1)] [] (wX0 cI cJ cZ cA V land there near worn trial fits ways) := by
  intro n
  induction n with
  | zero =>
    intro x1 fits h
    rw [q_X0_markSetsOfNeighbours_L9] at h
    exact h.elim
  | succ n ih =>
    intro x1 fits h k0
    rw [q_X0_markSetsOfNeighbours_L9] at h
    refine x_iload_n (pc := 9) K dX0_markSetsOfNeighbours_9 1 rfl rfl ?_
    refine x_bipush (v := 10) (pc := 10) K dX0_markSetsOfNeighbours_10 (by decide) ?_
    refine x_icmp_ge (pc := 12) K dX0_markSetsOfNeighbours_12 (tgt := 73) (by decide) (fun c9 => ?_) (fun c9 => ?_)
    · have h := h.1 c9
      refine x_keep [false, false] rfl ?_
      exact k0 fits h
    · have h := h.2 c9
      refine x_iconst (v := 0) (pc := 15) K dX0_markSetsOfNeighbours_15 (by decide) ?_
      refine x_istore_n (lv' := [(0, .ref (V 0)), (1, .int x1), (2, .int 0)]) (pc := 16) K dX0_markSetsOfNeighbours_16 rfl (by decide) rfl ?_
      obtain ⟨n5, h⟩ := h
      refine w_X0_markSetsOfNeighbours_L17 K x1 land there near worn trial ways _ n5 0 fits h (fun v6 h => ?_)
      refine x_iinc (v := x1 + 1) (lv' := [(0, .ref (V 0)), (1, .int (x1 + 1))]) (pc := 67) K dX0_markSetsOfNeighbours_67 (k := 1) rfl rfl (by decide) rfl ?_
      refine x_goto (pc := 70) K dX0_markSetsOfNeighbours_70 (tgt := 9) (by decide) ?_
      exact ih (x1 + 1) v6 h k0
set_option maxHeartbeats 4000000 in
set_option maxRecDepth 100000 in
theorem c_X0_markSetsOfNeighbours (l : Launch) (D : va_G) (cI cJ cZ cA : ClassId) (V : Nat → Nat) (land : Nat → Int64) (there : Int32) (near : Nat → Int32) (worn : Nat → Int32) (trial : Nat → Int32) (fits : Nat → Int32) (ways : Nat → Int64) (P : (Nat → Int32) → Prop) (h : q_X0_markSetsOfNeighbours near fits P) : xMv l yX0_markSetsOfNeighbours wsX0_markSetsOfNeighbours rm_X0_markSetsOfNeighbours D vwCl (xtys cI cJ cZ cA) (wX0 cI cJ cZ cA V land there near worn trial fits ways) [.ref (V 0)] (σ := (Nat → Int32)) (fun u => (wX0 cI cJ cZ cA V land there near worn trial u ways)) (fun u => P u) := by
  refine xMv_of (cc := cX0_markSetsOfNeighbours) (maxL := 3) (by decide) rfl (Nat.le_of_ble_eq_true rfl) ?_
  intro X K hE
  have K : xk X l rm_X0_markSetsOfNeighbours D vwCl (xtys cI cJ cZ cA) cX0_markSetsOfNeighbours RX0 wsX0_markSetsOfNeighbours 3 := K
  unfold q_X0_markSetsOfNeighbours at h
  refine x_aload_n (pc := 0) K dX0_markSetsOfNeighbours_0 0 rfl rfl ?_
  refine x_get (pc := 1) (ci := 0) (C := RX0) (T := TX0) (N := 8) K (inX0_markSetsOfNeighbours) 0 rfl rfl 5 (by decide) kX0_markSetsOfNeighbours_0 rfl rfl dX0_markSetsOfNeighbours_1 ?_
  refine x_iconst (v := 0) (pc := 4) K dX0_markSetsOfNeighbours_4 (by decide) ?_
  refine x_iconst (v := 1) (pc := 5) K dX0_markSetsOfNeighbours_5 (by decide) ?_
  have g9 := h.1
  replace h := h.2
  refine x_zast (ws' := (wX0 cI cJ cZ cA V land there near worn trial (upd fits ((0 : Int32).toNatClampNeg) (vp_nar .boolean 1)) ways)) (pc := 6) K 5 2 rfl rfl rfl g9 dX0_markSetsOfNeighbours_6 ?_
  clear g9
  refine x_iconst (v := 0) (pc := 7) K dX0_markSetsOfNeighbours_7 (by decide) ?_
  refine x_istore_n (lv' := [(0, .ref (V 0)), (1, .int 0)]) (pc := 8) K dX0_markSetsOfNeighbours_8 rfl (by decide) rfl ?_
  obtain ⟨n7, h⟩ := h
  refine w_X0_markSetsOfNeighbours_L9 K land there near worn trial ways _ n7 0 (upd fits ((0 : Int32).toNatClampNeg) (vp_nar .boolean 1)) h (fun v8 h => ?_)
  exact hE v8 _ _ h dX0_markSetsOfNeighbours_73
abbrev rm_X0_markSetsWithoutNeighbours : Room := { frames := 8, cells := 0, slots := 0, locals := 120 }
theorem inX0_markSetsWithoutNeighbours : ∀ w ∈ u_ws RX0 TX0 8, w ∈ wsX0_markSetsWithoutNeighbours := by decide +kernel
theorem kX0_markSetsWithoutNeighbours_0 : Cond.fieldLink RX0 27 "FourTints" "fits" "[Z" ∈ wsX0_markSetsWithoutNeighbours := by decide +kernel
theorem kX0_markSetsWithoutNeighbours_1 : Cond.fieldLink RX0 17 "FourTints" "near" "[I" ∈ wsX0_markSetsWithoutNeighbours := by decide +kernel
def q_X0_markSetsWithoutNeighbours_L17 (u1 : Int32) (near : Nat → Int32) (P0 : (Nat → Int32) → Prop) : Nat → Int32 → (Nat → Int32) → Prop
  | 0, _, _ => False
  | n + 1, x2, fits => (((1 <<< (u1 &&& 31)) ≤ x2 → P0 fits) ∧ (¬ (1 <<< (u1 &&& 31)) ≤ x2 → xin x2 1024 = true ∧ (((fits x2.toNatClampNeg) = 0 → xin (x2 ||| (1 <<< (u1 &&& 31))) 1024 = true ∧ q_X0_markSetsWithoutNeighbours_L17 u1 near P0 n (x2 + 1) (upd fits ((x2 ||| (1 <<< (u1 &&& 31))).toNatClampNeg) (vp_nar .boolean 0))) ∧ (¬ (fits x2.toNatClampNeg) = 0 → xin u1 10 = true ∧ ((¬ (x2 &&& (near u1.toNatClampNeg)) = 0 → xin (x2 ||| (1 <<< (u1 &&& 31))) 1024 = true ∧ q_X0_markSetsWithoutNeighbours_L17 u1 near P0 n (x2 + 1) (upd fits ((x2 ||| (1 <<< (u1 &&& 31))).toNatClampNeg) (vp_nar .boolean 0))) ∧ ((x2 &&& (near u1.toNatClampNeg)) = 0 → xin (x2 ||| (1 <<< (u1 &&& 31))) 1024 = true ∧ q_X0_markSetsWithoutNeighbours_L17 u1 near P0 n (x2 + 1) (upd fits ((x2 ||| (1 <<< (u1 &&& 31))).toNatClampNeg) (vp_nar .boolean 1))))))))
def q_X0_markSetsWithoutNeighbours_L9 (near : Nat → Int32) (P0 : (Nat → Int32) → Prop) : Nat → Int32 → (Nat → Int32) → Prop
  | 0, _, _ => False
  | n + 1, x1, fits => ((10 ≤ x1 → P0 fits) ∧ (¬ 10 ≤ x1 → (∃ n5 : Nat, q_X0_markSetsWithoutNeighbours_L17 x1 near (fun (v6 : Nat → Int32) => q_X0_markSetsWithoutNeighbours_L9 near P0 n (x1 + 1) v6) n5 0 fits)))
def q_X0_markSetsWithoutNeighbours (near : Nat → Int32) (fits : Nat → Int32) (P : (Nat → Int32) → Prop) : Prop := xin 0 1024 = true ∧ (∃ n7 : Nat, q_X0_markSetsWithoutNeighbours_L9 near (fun (v8 : Nat → Int32) => P v8) n7 0 (upd fits ((0 : Int32).toNatClampNeg) (vp_nar .boolean 1)))
set_option maxHeartbeats 4000000 in
set_option maxRecDepth 100000 in
theorem w_X0_markSetsWithoutNeighbours_L17 {X : xC} {l : Launch} {D : va_G} {cI cJ cZ cA : ClassId} {V : Nat → Nat} (K : xk X l rm_X0_markSetsWithoutNeighbours D vwCl (xtys cI cJ cZ cA) cX0_markSetsWithoutNeighbours RX0 wsX0_markSetsWithoutNeighbours 3) (u1 : Int32) (land : Nat → Int64) (there : Int32) (near : Nat → Int32) (worn : Nat → Int32) (trial : Nat → Int32) (ways : Nat → Int64) (P0 : (Nat → Int32) → Prop) : ∀ (n : Nat) (x2 : Int32) (fits : Nat → Int32), q_X0_markSetsWithoutNeighbours_L17 u1 near P0 n x2 fits → (∀ (z0 : Nat → Int32), P0 z0 → xw X 0 0 65 [(0, .ref (V 0)), (1, .int u1)] [] (wX0 cI cJ cZ cA V land there near worn trial z0 ways)) → xw X 0 0 17 [(0, .ref (V 0)), (1, .int u1), (2, .int x2)] [] (wX0 cI cJ cZ cA V land there near worn trial fits ways) := by
  intro n
  induction n with
  | zero =>
    intro x2 fits h
    rw [q_X0_markSetsWithoutNeighbours_L17] at h
    exact h.elim
  | succ n ih =>
    intro x2 fits h k0
    rw [q_X0_markSetsWithoutNeighbours_L17] at h
    refine x_iload_n (pc := 17) K dX0_markSetsWithoutNeighbours_17 2 rfl rfl ?_
    refine x_iconst (v := 1) (pc := 18) K dX0_markSetsWithoutNeighbours_18 (by decide) ?_
    refine x_iload_n (pc := 19) K dX0_markSetsWithoutNeighbours_19 1 rfl rfl ?_
    refine x_ishl (pc := 20) K dX0_markSetsWithoutNeighbours_20 ?_
    refine x_icmp_ge (pc := 21) K dX0_markSetsWithoutNeighbours_21 (tgt := 65) (by decide) (fun c9 => ?_) (fun c9 => ?_)
    · have h := h.1 c9
      refine x_keep [true, true, false] rfl ?_
      exact k0 fits h
    · have h := h.2 c9
      refine x_aload_n (pc := 24) K dX0_markSetsWithoutNeighbours_24 0 rfl rfl ?_
      refine x_get (pc := 25) (ci := 0) (C := RX0) (T := TX0) (N := 8) K (inX0_markSetsWithoutNeighbours) 0 rfl rfl 5 (by decide) kX0_markSetsWithoutNeighbours_0 rfl rfl dX0_markSetsWithoutNeighbours_25 ?_
      refine x_iload_n (pc := 28) K dX0_markSetsWithoutNeighbours_28 2 rfl rfl ?_
      refine x_iconst (v := 1) (pc := 29) K dX0_markSetsWithoutNeighbours_29 (by decide) ?_
      refine x_iload_n (pc := 30) K dX0_markSetsWithoutNeighbours_30 1 rfl rfl ?_
      refine x_ishl (pc := 31) K dX0_markSetsWithoutNeighbours_31 ?_
      refine x_ior (pc := 32) K dX0_markSetsWithoutNeighbours_32 ?_
      refine x_aload_n (pc := 33) K dX0_markSetsWithoutNeighbours_33 0 rfl rfl ?_
      refine x_get (pc := 34) (ci := 0) (C := RX0) (T := TX0) (N := 8) K (inX0_markSetsWithoutNeighbours) 0 rfl rfl 5 (by decide) kX0_markSetsWithoutNeighbours_0 rfl rfl dX0_markSetsWithoutNeighbours_34 ?_
      refine x_iload_n (pc := 37) K dX0_markSetsWithoutNeighbours_37 2 rfl rfl ?_
      have g9 := h.1
      replace h := h.2
      refine x_zald (pc := 38) K 5 2 rfl rfl g9 dX0_markSetsWithoutNeighbours_38 ?_
      clear g9
      refine x_if_eq (pc := 39) K dX0_markSetsWithoutNeighbours_39 (tgt := 57) (by decide) (fun c9 => ?_) (fun c9 => ?_)
      · have h := h.1 c9
        refine x_iconst (v := 0) (pc := 57) K dX0_markSetsWithoutNeighbours_57 (by decide) ?_
        have g9 := h.1
        replace h := h.2
        refine x_zast (ws' := (wX0 cI cJ cZ cA V land there near worn trial (upd fits ((x2 ||| (1 <<< (u1 &&& 31))).toNatClampNeg) (vp_nar .boolean 0)) ways)) (pc := 58) K 5 2 rfl rfl rfl g9 dX0_markSetsWithoutNeighbours_58 ?_
        clear g9
        refine x_iinc (v := x2 + 1) (lv' := [(0, .ref (V 0)), (1, .int u1), (2, .int (x2 + 1))]) (pc := 59) K dX0_markSetsWithoutNeighbours_59 (k := 2) rfl rfl (by decide) rfl ?_
        refine x_goto (pc := 62) K dX0_markSetsWithoutNeighbours_62 (tgt := 17) (by decide) ?_
        exact ih (x2 + 1) (upd fits ((x2 ||| (1 <<< (u1 &&& 31))).toNatClampNeg) (vp_nar .boolean 0)) h k0
      · have h := h.2 c9
        refine x_iload_n (pc := 42) K dX0_markSetsWithoutNeighbours_42 2 rfl rfl ?_
        refine x_aload_n (pc := 43) K dX0_markSetsWithoutNeighbours_43 0 rfl rfl ?_
        refine x_get (pc := 44) (ci := 0) (C := RX0) (T := TX0) (N := 8) K (inX0_markSetsWithoutNeighbours) 0 rfl rfl 2 (by decide) kX0_markSetsWithoutNeighbours_1 rfl rfl dX0_markSetsWithoutNeighbours_44 ?_
        refine x_iload_n (pc := 47) K dX0_markSetsWithoutNeighbours_47 1 rfl rfl ?_
        have g9 := h.1
        replace h := h.2
        refine x_iald (pc := 48) K 2 0 rfl rfl g9 dX0_markSetsWithoutNeighbours_48 ?_
        clear g9
        refine x_iand (pc := 49) K dX0_markSetsWithoutNeighbours_49 ?_
        refine x_if_ne (pc := 50) K dX0_markSetsWithoutNeighbours_50 (tgt := 57) (by decide) (fun c9 => ?_) (fun c9 => ?_)
        · have h := h.1 c9
          refine x_iconst (v := 0) (pc := 57) K dX0_markSetsWithoutNeighbours_57 (by decide) ?_
          have g9 := h.1
          replace h := h.2
          refine x_zast (ws' := (wX0 cI cJ cZ cA V land there near worn trial (upd fits ((x2 ||| (1 <<< (u1 &&& 31))).toNatClampNeg) (vp_nar .boolean 0)) ways)) (pc := 58) K 5 2 rfl rfl rfl g9 dX0_markSetsWithoutNeighbours_58 ?_
          clear g9
          refine x_iinc (v := x2 + 1) (lv' := [(0, .ref (V 0)), (1, .int u1), (2, .int (x2 + 1))]) (pc := 59) K dX0_markSetsWithoutNeighbours_59 (k := 2) rfl rfl (by decide) rfl ?_
          refine x_goto (pc := 62) K dX0_markSetsWithoutNeighbours_62 (tgt := 17) (by decide) ?_
          exact ih (x2 + 1) (upd fits ((x2 ||| (1 <<< (u1 &&& 31))).toNatClampNeg) (vp_nar .boolean 0)) h k0
        · have h := h.2 c9
          refine x_iconst (v := 1) (pc := 53) K dX0_markSetsWithoutNeighbours_53 (by decide) ?_
          refine x_goto (pc := 54) K dX0_markSetsWithoutNeighbours_54 (tgt := 58) (by decide) ?_
          have g9 := h.1
          replace h := h.2
          refine x_zast (ws' := (wX0 cI cJ cZ cA V land there near worn trial (upd fits ((x2 ||| (1 <<< (u1 &&& 31))).toNatClampNeg) (vp_nar .boolean 1)) ways)) (pc := 58) K 5 2 rfl rfl rfl g9 dX0_markSetsWithoutNeighbours_58 ?_
          clear g9
          refine x_iinc (v := x2 + 1) (lv' := [(0, .ref (V 0)), (1, .int u1), (2, .int (x2 + 1))]) (pc := 59) K dX0_markSetsWithoutNeighbours_59 (k := 2) rfl rfl (by decide) rfl ?_
          refine x_goto (pc := 62) K dX0_markSetsWithoutNeighbours_62 (tgt := 17) (by decide) ?_
          exact ih (x2 + 1) (upd fits ((x2 ||| (1 <<< (u1 &&& 31))).toNatClampNeg) (vp_nar .boolean 1)) h k0
set_option maxHeartbeats 4000000 in
set_option maxRecDepth 100000 in
theorem w_X0_markSetsWithoutNeighbours_L9 {X : xC} {l : Launch} {D : va_G} {cI cJ cZ cA : ClassId} {V : Nat → Nat} (K : xk X l rm_X0_markSetsWithoutNeighbours D vwCl (xtys cI cJ cZ cA) cX0_markSetsWithoutNeighbours RX0 wsX0_markSetsWithoutNeighbours 3) (land : Nat → Int64) (there : Int32) (near : Nat → Int32) (worn : Nat → Int32) (trial : Nat → Int32) (ways : Nat → Int64) (P0 : (Nat → Int32) → Prop) : ∀ (n : Nat) (x1 : Int32) (fits : Nat → Int32), q_X0_markSetsWithoutNeighbours_L9 near P0 n x1 fits → (∀ (z0 : Nat → Int32), P0 z0 → xw X 0 0 71 [] [] (wX0 cI cJ cZ cA V land there near worn trial z0 ways)) → xw X 0 0 9 [(0, .ref (V 0)), (1, .int x1)] [] (wX0 cI cJ cZ cA V land there near worn trial fits ways) := by
  intro n
  induction n with
  | zero =>
    intro x1 fits h
    rw [q_X0_markSetsWithoutNeighbours_L9] at h
    exact h.elim
  | succ n ih =>
    intro x1 fits h k0
    rw [q_X0_markSetsWithoutNeighbours_L9] at h
    refine x_iload_n (pc := 9) K dX0_markSetsWithoutNeighbours_9 1 rfl rfl ?_
    refine x_bipush (v := 10) (pc := 10) K dX0_markSetsWithoutNeighbours_10 (by decide) ?_
    refine x_icmp_ge (pc := 12) K dX0_markSetsWithoutNeighbours_12 (tgt := 71) (by decide) (fun c9 => ?_) (fun c9 => ?_)
    · have h := h.1 c9
      refine x_keep [false, false] rfl ?_
      exact k0 fits h
    · have h := h.2 c9
      refine x_iconst (v := 0) (pc := 15) K dX0_markSetsWithoutNeighbours_15 (by decide) ?_
      refine x_istore_n (lv' := [(0, .ref (V 0)), (1, .int x1), (2, .int 0)]) (pc := 16) K dX0_markSetsWithoutNeighbours_16 rfl (by decide) rfl ?_
      obtain ⟨n5, h⟩ := h
      refine w_X0_markSetsWithoutNeighbours_L17 K x1 land there near worn trial ways _ n5 0 fits h (fun v6 h => ?_)
      refine x_iinc (v := x1 + 1) (lv' := [(0, .ref (V 0)), (1, .int (x1 + 1))]) (pc := 65) K dX0_markSetsWithoutNeighbours_65 (k := 1) rfl rfl (by decide) rfl ?_
      refine x_goto (pc := 68) K dX0_markSetsWithoutNeighbours_68 (tgt := 9) (by decide) ?_
      exact ih (x1 + 1) v6 h k0
set_option maxHeartbeats 4000000 in
set_option maxRecDepth 100000 in
theorem c_X0_markSetsWithoutNeighbours (l : Launch) (D : va_G) (cI cJ cZ cA : ClassId) (V : Nat → Nat) (land : Nat → Int64) (there : Int32) (near : Nat → Int32) (worn : Nat → Int32) (trial : Nat → Int32) (fits : Nat → Int32) (ways : Nat → Int64) (P : (Nat → Int32) → Prop) (h : q_X0_markSetsWithoutNeighbours near fits P) : xMv l yX0_markSetsWithoutNeighbours wsX0_markSetsWithoutNeighbours rm_X0_markSetsWithoutNeighbours D vwCl (xtys cI cJ cZ cA) (wX0 cI cJ cZ cA V land there near worn trial fits ways) [.ref (V 0)] (σ := (Nat → Int32)) (fun u => (wX0 cI cJ cZ cA V land there near worn trial u ways)) (fun u => P u) := by
  refine xMv_of (cc := cX0_markSetsWithoutNeighbours) (maxL := 3) (by decide) rfl (Nat.le_of_ble_eq_true rfl) ?_
  intro X K hE
  have K : xk X l rm_X0_markSetsWithoutNeighbours D vwCl (xtys cI cJ cZ cA) cX0_markSetsWithoutNeighbours RX0 wsX0_markSetsWithoutNeighbours 3 := K
  unfold q_X0_markSetsWithoutNeighbours at h
  refine x_aload_n (pc := 0) K dX0_markSetsWithoutNeighbours_0 0 rfl rfl ?_
  refine x_get (pc := 1) (ci := 0) (C := RX0) (T := TX0) (N := 8) K (inX0_markSetsWithoutNeighbours) 0 rfl rfl 5 (by decide) kX0_markSetsWithoutNeighbours_0 rfl rfl dX0_markSetsWithoutNeighbours_1 ?_
  refine x_iconst (v := 0) (pc := 4) K dX0_markSetsWithoutNeighbours_4 (by decide) ?_
  refine x_iconst (v := 1) (pc := 5) K dX0_markSetsWithoutNeighbours_5 (by decide) ?_
  have g9 := h.1
  replace h := h.2
  refine x_zast (ws' := (wX0 cI cJ cZ cA V land there near worn trial (upd fits ((0 : Int32).toNatClampNeg) (vp_nar .boolean 1)) ways)) (pc := 6) K 5 2 rfl rfl rfl g9 dX0_markSetsWithoutNeighbours_6 ?_
  clear g9
  refine x_iconst (v := 0) (pc := 7) K dX0_markSetsWithoutNeighbours_7 (by decide) ?_
  refine x_istore_n (lv' := [(0, .ref (V 0)), (1, .int 0)]) (pc := 8) K dX0_markSetsWithoutNeighbours_8 rfl (by decide) rfl ?_
  obtain ⟨n7, h⟩ := h
  refine w_X0_markSetsWithoutNeighbours_L9 K land there near worn trial ways _ n7 0 (upd fits ((0 : Int32).toNatClampNeg) (vp_nar .boolean 1)) h (fun v8 h => ?_)
  exact hE v8 _ _ h dX0_markSetsWithoutNeighbours_71
abbrev rm_X0_shareOutFrom : Room := { frames := 8, cells := 0, slots := 0, locals := 120 }
theorem inX0_shareOutFrom : ∀ w ∈ u_ws RX0 TX0 8, w ∈ wsX0_shareOutFrom := by decide +kernel
theorem kX0_shareOutFrom_0 : Cond.fieldLink RX0 27 "FourTints" "fits" "[Z" ∈ wsX0_shareOutFrom := by decide +kernel
theorem kX0_shareOutFrom_1 : Cond.fieldLink RX0 31 "FourTints" "ways" "[J" ∈ wsX0_shareOutFrom := by decide +kernel
def q_X0_shareOutFrom_L21 (u2 : Int64) (u4 : Int32) (u5 : Int32) (fits : Nat → Int32) (P0 : (Nat → Int64) → Prop) (P1 : (Nat → Int64) → Prop) : Nat → Int32 → Int32 → (Nat → Int64) → Prop
  | 0, _, _, _ => False
  | n + 1, x6, x7, ways => ((1024 ≤ x7 → P0 ways) ∧ (¬ 1024 ≤ x7 → xin (u4 ||| x6) 1024 = true ∧ xj1 (fun (v4 : Nat → Int64) => ((¬ x6 = 0 → xl ((x6 - 1) &&& u5) (fun y5 => q_X0_shareOutFrom_L21 u2 u4 u5 fits P0 P1 n y5 (x7 + 1) v4)) ∧ (x6 = 0 → P1 v4))) (fun (J3 : (Nat → Int64) → Prop) => (((fits (u4 ||| x6).toNatClampNeg) = 0 → J3 ways) ∧ (¬ (fits (u4 ||| x6).toNatClampNeg) = 0 → xin (u5 &&& (x6 ^^^ (-1))) 1024 = true ∧ xin (u5 &&& (x6 ^^^ (-1))) 1024 = true ∧ J3 (vp_updL ways ((u5 &&& (x6 ^^^ (-1))).toNatClampNeg) ((ways (u5 &&& (x6 ^^^ (-1))).toNatClampNeg) + u2)))))))
def q_X0_shareOutFrom (p1 : Int32) (p2 : Int64) (fits : Nat → Int32) (ways : Nat → Int64) (P : (Nat → Int64) → Prop) : Prop := xl (p1 &&& (-p1)) (fun y1 => xl (p1 &&& (y1 ^^^ (-1))) (fun y2 => (∃ n7 : Nat, q_X0_shareOutFrom_L21 p2 y1 y2 fits (fun (v8 : Nat → Int64) => P v8) (fun (v9 : Nat → Int64) => P v9) n7 y2 0 ways)))
set_option maxHeartbeats 4000000 in
set_option maxRecDepth 100000 in
theorem w_X0_shareOutFrom_L21 {X : xC} {l : Launch} {D : va_G} {cI cJ cZ cA : ClassId} {V : Nat → Nat} (K : xk X l rm_X0_shareOutFrom D vwCl (xtys cI cJ cZ cA) cX0_shareOutFrom RX0 wsX0_shareOutFrom 8) (u2 : Int64) (u4 : Int32) (u5 : Int32) (land : Nat → Int64) (there : Int32) (near : Nat → Int32) (worn : Nat → Int32) (trial : Nat → Int32) (fits : Nat → Int32) (P0 : (Nat → Int64) → Prop) (P1 : (Nat → Int64) → Prop) : ∀ (n : Nat) (x6 : Int32) (x7 : Int32) (ways : Nat → Int64), q_X0_shareOutFrom_L21 u2 u4 u5 fits P0 P1 n x6 x7 ways → (∀ (z0 : Nat → Int64), P0 z0 → xw X 0 0 79 [] [] (wX0 cI cJ cZ cA V land there near worn trial fits z0)) → (∀ (z0 : Nat → Int64), P1 z0 → xw X 0 0 63 [] [] (wX0 cI cJ cZ cA V land there near worn trial fits z0)) → xw X 0 0 21 [(0, .ref (V 0)), (2, .long u2), (4, .int u4), (5, .int u5), (6, .int x6), (7, .int x7)] [] (wX0 cI cJ cZ cA V land there near worn trial fits ways) := by
  intro n
  induction n with
  | zero =>
    intro x6 x7 ways h
    rw [q_X0_shareOutFrom_L21] at h
    exact h.elim
  | succ n ih =>
    intro x6 x7 ways h k0 k1
    rw [q_X0_shareOutFrom_L21] at h
    refine x_iload (pc := 21) K dX0_shareOutFrom_21 5 rfl ?_
    refine x_sipush (v := 1024) (pc := 23) K dX0_shareOutFrom_23 (by decide) ?_
    refine x_icmp_ge (pc := 26) K dX0_shareOutFrom_26 (tgt := 79) (by decide) (fun c9 => ?_) (fun c9 => ?_)
    · have h := h.1 c9
      refine x_keep [false, false, false, false, false, false] rfl ?_
      exact k0 ways h
    · have h := h.2 c9
      refine x_aload_n (pc := 29) K dX0_shareOutFrom_29 0 rfl rfl ?_
      refine x_get (pc := 30) (ci := 0) (C := RX0) (T := TX0) (N := 8) K (inX0_shareOutFrom) 0 rfl rfl 5 (by decide) kX0_shareOutFrom_0 rfl rfl dX0_shareOutFrom_30 ?_
      refine x_iload (pc := 33) K dX0_shareOutFrom_33 2 rfl ?_
      refine x_iload (pc := 35) K dX0_shareOutFrom_35 4 rfl ?_
      refine x_ior (pc := 37) K dX0_shareOutFrom_37 ?_
      have g9 := h.1
      replace h := h.2
      refine x_zald (pc := 38) K 5 2 rfl rfl g9 dX0_shareOutFrom_38 ?_
      clear g9
      obtain ⟨J3, hJ3, h⟩ := xj1_o h
      have kJ3 : ∀ (v4 : Nat → Int64), J3 v4 → xw X 0 0 58 [(0, .ref (V 0)), (2, .long u2), (4, .int u4), (5, .int u5), (6, .int x6), (7, .int x7)] [] (wX0 cI cJ cZ cA V land there near worn trial fits v4) := by
        intro v4 hj
        have h := hJ3 v4 hj
        refine x_iload (pc := 58) K dX0_shareOutFrom_58 4 rfl ?_
        refine x_if_ne (pc := 60) K dX0_shareOutFrom_60 (tgt := 64) (by decide) (fun c9 => ?_) (fun c9 => ?_)
        · have h := h.1 c9
          refine x_iload (pc := 64) K dX0_shareOutFrom_64 4 rfl ?_
          refine x_iconst (v := 1) (pc := 66) K dX0_shareOutFrom_66 (by decide) ?_
          refine x_isub (pc := 67) K dX0_shareOutFrom_67 ?_
          refine x_iload (pc := 68) K dX0_shareOutFrom_68 3 rfl ?_
          refine x_iand (pc := 70) K dX0_shareOutFrom_70 ?_
          obtain ⟨y5, ey5, h⟩ := xl_o h
          refine x_topi ey5 ?_
          clear ey5
          refine x_istore (lv' := [(0, .ref (V 0)), (2, .long u2), (4, .int u4), (5, .int u5), (6, .int y5), (7, .int x7)]) (pc := 71) K dX0_shareOutFrom_71 (by decide) rfl ?_
          refine x_iinc (v := x7 + 1) (lv' := [(0, .ref (V 0)), (2, .long u2), (4, .int u4), (5, .int u5), (6, .int y5), (7, .int (x7 + 1))]) (pc := 73) K dX0_shareOutFrom_73 (k := 5) rfl rfl (by decide) rfl ?_
          refine x_goto (pc := 76) K dX0_shareOutFrom_76 (tgt := 21) (by decide) ?_
          exact ih y5 (x7 + 1) v4 h k0 k1
        · have h := h.2 c9
          refine x_keep [false, false, false, false, false, false] rfl ?_
          exact k1 v4 h
      refine x_if_eq (pc := 39) K dX0_shareOutFrom_39 (tgt := 58) (by decide) (fun c9 => ?_) (fun c9 => ?_)
      · have h := h.1 c9
        exact kJ3 ways h
      · have h := h.2 c9
        refine x_aload_n (pc := 42) K dX0_shareOutFrom_42 0 rfl rfl ?_
        refine x_get (pc := 43) (ci := 0) (C := RX0) (T := TX0) (N := 8) K (inX0_shareOutFrom) 0 rfl rfl 6 (by decide) kX0_shareOutFrom_1 rfl rfl dX0_shareOutFrom_43 ?_
        refine x_iload (pc := 46) K dX0_shareOutFrom_46 3 rfl ?_
        refine x_iload (pc := 48) K dX0_shareOutFrom_48 4 rfl ?_
        refine x_iconst (v := (-1)) (pc := 50) K dX0_shareOutFrom_50 (by decide) ?_
        refine x_ixor (pc := 51) K dX0_shareOutFrom_51 ?_
        refine x_iand (pc := 52) K dX0_shareOutFrom_52 ?_
        refine x_dup2 (pc := 53) K dX0_shareOutFrom_53 rfl rfl ?_
        have g9 := h.1
        replace h := h.2
        refine x_lald (pc := 54) K 6 1 rfl rfl g9 dX0_shareOutFrom_54 ?_
        clear g9
        refine x_lload_n (pc := 55) K dX0_shareOutFrom_55 1 rfl rfl ?_
        refine x_ladd (pc := 56) K dX0_shareOutFrom_56 ?_
        have g9 := h.1
        replace h := h.2
        refine x_last (ws' := (wX0 cI cJ cZ cA V land there near worn trial fits (vp_updL ways ((u5 &&& (x6 ^^^ (-1))).toNatClampNeg) ((ways (u5 &&& (x6 ^^^ (-1))).toNatClampNeg) + u2)))) (pc := 57) K 6 1 rfl rfl rfl g9 dX0_shareOutFrom_57 ?_
        clear g9
        exact kJ3 (vp_updL ways ((u5 &&& (x6 ^^^ (-1))).toNatClampNeg) ((ways (u5 &&& (x6 ^^^ (-1))).toNatClampNeg) + u2)) h
set_option maxHeartbeats 4000000 in
set_option maxRecDepth 100000 in
theorem c_X0_shareOutFrom (l : Launch) (D : va_G) (cI cJ cZ cA : ClassId) (V : Nat → Nat) (p1 : Int32) (p2 : Int64) (land : Nat → Int64) (there : Int32) (near : Nat → Int32) (worn : Nat → Int32) (trial : Nat → Int32) (fits : Nat → Int32) (ways : Nat → Int64) (P : (Nat → Int64) → Prop) (h : q_X0_shareOutFrom p1 p2 fits ways P) : xMv l yX0_shareOutFrom wsX0_shareOutFrom rm_X0_shareOutFrom D vwCl (xtys cI cJ cZ cA) (wX0 cI cJ cZ cA V land there near worn trial fits ways) [.ref (V 0), .int p1, .long p2] (σ := (Nat → Int64)) (fun u => (wX0 cI cJ cZ cA V land there near worn trial fits u)) (fun u => P u) := by
  refine xMv_of (cc := cX0_shareOutFrom) (maxL := 8) (by decide) rfl (Nat.le_of_ble_eq_true rfl) ?_
  intro X K hE
  have K : xk X l rm_X0_shareOutFrom D vwCl (xtys cI cJ cZ cA) cX0_shareOutFrom RX0 wsX0_shareOutFrom 8 := K
  unfold q_X0_shareOutFrom at h
  refine x_iload_n (pc := 0) K dX0_shareOutFrom_0 1 rfl rfl ?_
  refine x_iload_n (pc := 1) K dX0_shareOutFrom_1 1 rfl rfl ?_
  refine x_ineg (pc := 2) K dX0_shareOutFrom_2 ?_
  refine x_iand (pc := 3) K dX0_shareOutFrom_3 ?_
  obtain ⟨y1, ey1, h⟩ := xl_o h
  refine x_topi ey1 ?_
  clear ey1
  refine x_istore (lv' := [(0, .ref (V 0)), (1, .int p1), (2, .long p2), (4, .int y1)]) (pc := 4) K dX0_shareOutFrom_4 (by decide) rfl ?_
  refine x_iload_n (pc := 6) K dX0_shareOutFrom_6 1 rfl rfl ?_
  refine x_iload (pc := 7) K dX0_shareOutFrom_7 3 rfl ?_
  refine x_iconst (v := (-1)) (pc := 9) K dX0_shareOutFrom_9 (by decide) ?_
  refine x_ixor (pc := 10) K dX0_shareOutFrom_10 ?_
  refine x_iand (pc := 11) K dX0_shareOutFrom_11 ?_
  obtain ⟨y2, ey2, h⟩ := xl_o h
  refine x_topi ey2 ?_
  clear ey2
  refine x_istore (lv' := [(0, .ref (V 0)), (1, .int p1), (2, .long p2), (4, .int y1), (5, .int y2)]) (pc := 12) K dX0_shareOutFrom_12 (by decide) rfl ?_
  refine x_iload (pc := 14) K dX0_shareOutFrom_14 4 rfl ?_
  refine x_istore (lv' := [(0, .ref (V 0)), (1, .int p1), (2, .long p2), (4, .int y1), (5, .int y2), (6, .int y2)]) (pc := 16) K dX0_shareOutFrom_16 (by decide) rfl ?_
  refine x_iconst (v := 0) (pc := 18) K dX0_shareOutFrom_18 (by decide) ?_
  refine x_istore (lv' := [(0, .ref (V 0)), (1, .int p1), (2, .long p2), (4, .int y1), (5, .int y2), (6, .int y2), (7, .int 0)]) (pc := 19) K dX0_shareOutFrom_19 (by decide) rfl ?_
  refine x_keep [true, false, true, true, true, true, true] rfl ?_
  obtain ⟨n7, h⟩ := h
  refine w_X0_shareOutFrom_L21 K p2 y1 y2 land there near worn trial fits _ _ n7 y2 0 ways h (fun v8 h => ?_) (fun v9 h => ?_)
  · exact hE v8 _ _ h dX0_shareOutFrom_79
  · exact hE v9 _ _ h dX0_shareOutFrom_63
abbrev rm_X0_shareOutOneSet : Room := { frames := 9, cells := 0, slots := 0, locals := 160 }
theorem inX0_shareOutOneSet : ∀ w ∈ u_ws RX0 TX0 8, w ∈ wsX0_shareOutOneSet := by decide +kernel
theorem kX0_shareOutOneSet_0 : Cond.fieldLink RX0 31 "FourTints" "ways" "[J" ∈ wsX0_shareOutOneSet := by decide +kernel
def q_X0_shareOutOneSet_L9 (fits : Nat → Int32) (P0 : (Nat → Int64) → Prop) : Nat → Int32 → (Nat → Int64) → Prop
  | 0, _, _ => False
  | n + 1, x1, ways => ((1024 ≤ x1 → P0 ways) ∧ (¬ 1024 ≤ x1 → xin x1 1024 = true ∧ xl (ways x1.toNatClampNeg) (fun y2 => (((lg_cmp y2 0) = 0 → q_X0_shareOutOneSet_L9 fits P0 n (x1 + 1) ways) ∧ (¬ (lg_cmp y2 0) = 0 → xin x1 1024 = true ∧ q_X0_shareOutFrom x1 y2 fits (vp_updL ways x1.toNatClampNeg 0) (fun (ways_4 : Nat → Int64) => q_X0_shareOutOneSet_L9 fits P0 n (x1 + 1) ways_4))))))
def q_X0_shareOutOneSet (fits : Nat → Int32) (ways : Nat → Int64) (P : (Nat → Int64) → Prop) : Prop := xin 0 1024 = true ∧ (∃ n5 : Nat, q_X0_shareOutOneSet_L9 fits (fun (v6 : Nat → Int64) => P v6) n5 1 (vp_updL ways ((0 : Int32).toNatClampNeg) 0))
set_option maxHeartbeats 4000000 in
set_option maxRecDepth 100000 in
theorem w_X0_shareOutOneSet_L9 {X : xC} {l : Launch} {D : va_G} {cI cJ cZ cA : ClassId} {V : Nat → Nat} (K : xk X l rm_X0_shareOutOneSet D vwCl (xtys cI cJ cZ cA) cX0_shareOutOneSet RX0 wsX0_shareOutOneSet 4) (land : Nat → Int64) (there : Int32) (near : Nat → Int32) (worn : Nat → Int32) (trial : Nat → Int32) (fits : Nat → Int32) (P0 : (Nat → Int64) → Prop) : ∀ (n : Nat) (x1 : Int32) (ways : Nat → Int64), q_X0_shareOutOneSet_L9 fits P0 n x1 ways → (∀ (z0 : Nat → Int64), P0 z0 → xw X 0 0 48 [] [] (wX0 cI cJ cZ cA V land there near worn trial fits z0)) → xw X 0 0 9 [(0, .ref (V 0)), (1, .int x1)] [] (wX0 cI cJ cZ cA V land there near worn trial fits ways) := by
  intro n
  induction n with
  | zero =>
    intro x1 ways h
    rw [q_X0_shareOutOneSet_L9] at h
    exact h.elim
  | succ n ih =>
    intro x1 ways h k0
    rw [q_X0_shareOutOneSet_L9] at h
    refine x_iload_n (pc := 9) K dX0_shareOutOneSet_9 1 rfl rfl ?_
    refine x_sipush (v := 1024) (pc := 10) K dX0_shareOutOneSet_10 (by decide) ?_
    refine x_icmp_ge (pc := 13) K dX0_shareOutOneSet_13 (tgt := 48) (by decide) (fun c9 => ?_) (fun c9 => ?_)
    · have h := h.1 c9
      refine x_keep [false, false] rfl ?_
      exact k0 ways h
    · have h := h.2 c9
      refine x_aload_n (pc := 16) K dX0_shareOutOneSet_16 0 rfl rfl ?_
      refine x_get (pc := 17) (ci := 0) (C := RX0) (T := TX0) (N := 8) K (inX0_shareOutOneSet) 0 rfl rfl 6 (by decide) kX0_shareOutOneSet_0 rfl rfl dX0_shareOutOneSet_17 ?_
      refine x_iload_n (pc := 20) K dX0_shareOutOneSet_20 1 rfl rfl ?_
      have g9 := h.1
      replace h := h.2
      refine x_lald (pc := 21) K 6 1 rfl rfl g9 dX0_shareOutOneSet_21 ?_
      clear g9
      obtain ⟨y2, ey2, h⟩ := xl_o h
      refine x_topl ey2 ?_
      clear ey2
      refine x_lstore_n (lv' := [(0, .ref (V 0)), (1, .int x1), (2, .long y2)]) (pc := 22) K dX0_shareOutOneSet_22 rfl (by decide) rfl ?_
      refine x_lload_n (pc := 23) K dX0_shareOutOneSet_23 2 rfl rfl ?_
      refine x_lconst (v := 0) (pc := 24) K dX0_shareOutOneSet_24 (by decide) ?_
      refine x_lcmp (pc := 25) K dX0_shareOutOneSet_25 ?_
      refine x_if_eq (pc := 26) K dX0_shareOutOneSet_26 (tgt := 42) (by decide) (fun c9 => ?_) (fun c9 => ?_)
      · have h := h.1 c9
        refine x_keep [true, true, false] rfl ?_
        refine x_iinc (v := x1 + 1) (lv' := [(0, .ref (V 0)), (1, .int (x1 + 1))]) (pc := 42) K dX0_shareOutOneSet_42 (k := 1) rfl rfl (by decide) rfl ?_
        refine x_goto (pc := 45) K dX0_shareOutOneSet_45 (tgt := 9) (by decide) ?_
        exact ih (x1 + 1) ways h k0
      · have h := h.2 c9
        refine x_aload_n (pc := 29) K dX0_shareOutOneSet_29 0 rfl rfl ?_
        refine x_get (pc := 30) (ci := 0) (C := RX0) (T := TX0) (N := 8) K (inX0_shareOutOneSet) 0 rfl rfl 6 (by decide) kX0_shareOutOneSet_0 rfl rfl dX0_shareOutOneSet_30 ?_
        refine x_iload_n (pc := 33) K dX0_shareOutOneSet_33 1 rfl rfl ?_
        refine x_lconst (v := 0) (pc := 34) K dX0_shareOutOneSet_34 (by decide) ?_
        have g9 := h.1
        replace h := h.2
        refine x_last (ws' := (wX0 cI cJ cZ cA V land there near worn trial fits (vp_updL ways x1.toNatClampNeg 0))) (pc := 35) K 6 1 rfl rfl rfl g9 dX0_shareOutOneSet_35 ?_
        clear g9
        refine x_aload_n (pc := 36) K dX0_shareOutOneSet_36 0 rfl rfl ?_
        refine x_iload_n (pc := 37) K dX0_shareOutOneSet_37 1 rfl rfl ?_
        refine x_lload_n (pc := 38) K dX0_shareOutOneSet_38 2 rfl rfl ?_
        refine x_callVv (pc := 39) (n := 2) K (c_X0_shareOutFrom l D cI cJ cZ cA V x1 y2 land there near worn trial fits (vp_updL ways x1.toNatClampNeg 0) _ h) rfl rfl gX0_shareOutOneSet_X0_shareOutFrom rfl (by decide +kernel) ⟨Nat.le_of_ble_eq_true rfl, Nat.le_of_ble_eq_true rfl⟩ rfl (av := [.int x1, .long y2]) (b := V 0) (ci := 0) (q0 := 0) rfl rfl rfl (Nat.le_of_ble_eq_true rfl) [0, 1, 2, 3, 4, 5, 6] [] (wr := []) rfl rfl rfl rfl (by decide) dX0_shareOutOneSet_39 ⟨Nat.le_of_ble_eq_true rfl, Nat.le_of_ble_eq_true rfl⟩ (fun ways_4 h => ?_)
        refine x_ws (ws' := (wX0 cI cJ cZ cA V land there near worn trial fits ways_4)) rfl ?_
        refine x_keep [true, true, false] rfl ?_
        refine x_iinc (v := x1 + 1) (lv' := [(0, .ref (V 0)), (1, .int (x1 + 1))]) (pc := 42) K dX0_shareOutOneSet_42 (k := 1) rfl rfl (by decide) rfl ?_
        refine x_goto (pc := 45) K dX0_shareOutOneSet_45 (tgt := 9) (by decide) ?_
        exact ih (x1 + 1) ways_4 h k0
set_option maxHeartbeats 4000000 in
set_option maxRecDepth 100000 in
theorem c_X0_shareOutOneSet (l : Launch) (D : va_G) (cI cJ cZ cA : ClassId) (V : Nat → Nat) (land : Nat → Int64) (there : Int32) (near : Nat → Int32) (worn : Nat → Int32) (trial : Nat → Int32) (fits : Nat → Int32) (ways : Nat → Int64) (P : (Nat → Int64) → Prop) (h : q_X0_shareOutOneSet fits ways P) : xMv l yX0_shareOutOneSet wsX0_shareOutOneSet rm_X0_shareOutOneSet D vwCl (xtys cI cJ cZ cA) (wX0 cI cJ cZ cA V land there near worn trial fits ways) [.ref (V 0)] (σ := (Nat → Int64)) (fun u => (wX0 cI cJ cZ cA V land there near worn trial fits u)) (fun u => P u) := by
  refine xMv_of (cc := cX0_shareOutOneSet) (maxL := 4) (by decide) rfl (Nat.le_of_ble_eq_true rfl) ?_
  intro X K hE
  have K : xk X l rm_X0_shareOutOneSet D vwCl (xtys cI cJ cZ cA) cX0_shareOutOneSet RX0 wsX0_shareOutOneSet 4 := K
  unfold q_X0_shareOutOneSet at h
  refine x_aload_n (pc := 0) K dX0_shareOutOneSet_0 0 rfl rfl ?_
  refine x_get (pc := 1) (ci := 0) (C := RX0) (T := TX0) (N := 8) K (inX0_shareOutOneSet) 0 rfl rfl 6 (by decide) kX0_shareOutOneSet_0 rfl rfl dX0_shareOutOneSet_1 ?_
  refine x_iconst (v := 0) (pc := 4) K dX0_shareOutOneSet_4 (by decide) ?_
  refine x_lconst (v := 0) (pc := 5) K dX0_shareOutOneSet_5 (by decide) ?_
  have g9 := h.1
  replace h := h.2
  refine x_last (ws' := (wX0 cI cJ cZ cA V land there near worn trial fits (vp_updL ways ((0 : Int32).toNatClampNeg) 0))) (pc := 6) K 6 1 rfl rfl rfl g9 dX0_shareOutOneSet_6 ?_
  clear g9
  refine x_iconst (v := 1) (pc := 7) K dX0_shareOutOneSet_7 (by decide) ?_
  refine x_istore_n (lv' := [(0, .ref (V 0)), (1, .int 1)]) (pc := 8) K dX0_shareOutOneSet_8 rfl (by decide) rfl ?_
  obtain ⟨n5, h⟩ := h
  refine w_X0_shareOutOneSet_L9 K land there near worn trial fits _ n5 1 (vp_updL ways ((0 : Int32).toNatClampNeg) 0) h (fun v6 h => ?_)
  exact hE v6 _ _ h dX0_shareOutOneSet_48
abbrev rm_X0_isFreeIn : Room := { frames := 9, cells := 0, slots := 0, locals := 160 }
def q_X0_isFreeIn_L3 (u1 : Int32) (u2 : Int32) (u3 : Int32) (trial : Nat → Int32) (P0 : Prop) (P1 : Prop) : Nat → Int32 → Prop
  | 0, _ => False
  | n + 1, x4 => ((u1 ≤ x4 → P0) ∧ (¬ u1 ≤ x4 → q_X0_has u2 x4 (fun (r1 : Int32) => ((r1 = 0 → q_X0_isFreeIn_L3 u1 u2 u3 trial P0 P1 n (x4 + 1)) ∧ (¬ r1 = 0 → xin x4 10 = true ∧ ((¬ (trial x4.toNatClampNeg) = u3 → q_X0_isFreeIn_L3 u1 u2 u3 trial P0 P1 n (x4 + 1)) ∧ ((trial x4.toNatClampNeg) = u3 → P1)))))))
def q_X0_isFreeIn (p1 : Int32) (p2 : Int32) (p3 : Int32) (trial : Nat → Int32) (P : Int32 → Prop) : Prop := (∃ n2 : Nat, q_X0_isFreeIn_L3 p1 p2 p3 trial ((xbool 1 ∧ P 1)) ((xbool 0 ∧ P 0)) n2 0)
set_option maxHeartbeats 4000000 in
set_option maxRecDepth 100000 in
theorem w_X0_isFreeIn_L3 {X : xC} {l : Launch} {D : va_G} {cI cJ cZ cA : ClassId} {a_trial : Nat} (K : xk X l rm_X0_isFreeIn D vwCl (xtys cI cJ cZ cA) cX0_isFreeIn RX0 wsX0_isFreeIn 5) (u1 : Int32) (u2 : Int32) (u3 : Int32) (trial : Nat → Int32) (P0 : Prop) (P1 : Prop) : ∀ (n : Nat) (x4 : Int32), q_X0_isFreeIn_L3 u1 u2 u3 trial P0 P1 n x4 → (P0 → xw X 0 0 34 [] [] [(a_trial, .inl (cI, 10, .inl trial))]) → (P1 → xw X 0 0 26 [] [] [(a_trial, .inl (cI, 10, .inl trial))]) → xw X 0 0 3 [(0, .ref a_trial), (1, .int u1), (2, .int u2), (3, .int u3), (4, .int x4)] [] [(a_trial, .inl (cI, 10, .inl trial))] := by
  intro n
  induction n with
  | zero =>
    intro x4 h
    rw [q_X0_isFreeIn_L3] at h
    exact h.elim
  | succ n ih =>
    intro x4 h k0 k1
    rw [q_X0_isFreeIn_L3] at h
    refine x_iload (pc := 3) K dX0_isFreeIn_3 4 rfl ?_
    refine x_iload_n (pc := 5) K dX0_isFreeIn_5 1 rfl rfl ?_
    refine x_icmp_ge (pc := 6) K dX0_isFreeIn_6 (tgt := 34) (by decide) (fun c9 => ?_) (fun c9 => ?_)
    · have h := h.1 c9
      refine x_keep [false, false, false, false, false] rfl ?_
      exact k0  h
    · have h := h.2 c9
      refine x_iload_n (pc := 9) K dX0_isFreeIn_9 2 rfl rfl ?_
      refine x_iload (pc := 10) K dX0_isFreeIn_10 4 rfl ?_
      refine x_pcallSz (pc := 12) (n := 2) K (c_X0_has l D cI cJ cZ cA u2 x4 _ h) rfl rfl gX0_isFreeIn_X0_has rfl (by decide +kernel) ⟨Nat.le_of_ble_eq_true rfl, Nat.le_of_ble_eq_true rfl⟩ rfl (av := [.int u2, .int x4]) rfl (Nat.le_of_ble_eq_true rfl) dX0_isFreeIn_12 ⟨Nat.le_of_ble_eq_true rfl, Nat.le_of_ble_eq_true rfl⟩ (fun r1 u9 h => ?_)
      refine x_if_eq (pc := 15) K dX0_isFreeIn_15 (tgt := 28) (by decide) (fun c9 => ?_) (fun c9 => ?_)
      · have h := h.1 c9
        refine x_iinc (v := x4 + 1) (lv' := [(0, .ref a_trial), (1, .int u1), (2, .int u2), (3, .int u3), (4, .int (x4 + 1))]) (pc := 28) K dX0_isFreeIn_28 (k := 4) rfl rfl (by decide) rfl ?_
        refine x_goto (pc := 31) K dX0_isFreeIn_31 (tgt := 3) (by decide) ?_
        exact ih (x4 + 1) h k0 k1
      · have h := h.2 c9
        refine x_aload_n (pc := 18) K dX0_isFreeIn_18 0 rfl rfl ?_
        refine x_iload (pc := 19) K dX0_isFreeIn_19 4 rfl ?_
        have g9 := h.1
        replace h := h.2
        refine x_iald (pc := 21) K 0 0 rfl rfl g9 dX0_isFreeIn_21 ?_
        clear g9
        refine x_iload_n (pc := 22) K dX0_isFreeIn_22 3 rfl rfl ?_
        refine x_icmp_ne (pc := 23) K dX0_isFreeIn_23 (tgt := 28) (by decide) (fun c9 => ?_) (fun c9 => ?_)
        · have h := h.1 c9
          refine x_iinc (v := x4 + 1) (lv' := [(0, .ref a_trial), (1, .int u1), (2, .int u2), (3, .int u3), (4, .int (x4 + 1))]) (pc := 28) K dX0_isFreeIn_28 (k := 4) rfl rfl (by decide) rfl ?_
          refine x_goto (pc := 31) K dX0_isFreeIn_31 (tgt := 3) (by decide) ?_
          exact ih (x4 + 1) h k0 k1
        · have h := h.2 c9
          refine x_keep [false, false, false, false, false] rfl ?_
          exact k1  h
set_option maxHeartbeats 4000000 in
set_option maxRecDepth 100000 in
theorem c_X0_isFreeIn (l : Launch) (D : va_G) (cI cJ cZ cA : ClassId) (a_trial : Nat) (p1 : Int32) (p2 : Int32) (p3 : Int32) (trial : Nat → Int32) (P : Int32 → Prop) (h : q_X0_isFreeIn p1 p2 p3 trial P) : xMz l yX0_isFreeIn wsX0_isFreeIn rm_X0_isFreeIn D vwCl (xtys cI cJ cZ cA) [(a_trial, .inl (cI, 10, .inl trial))] [.ref a_trial, .int p1, .int p2, .int p3] (σ := Unit) (fun _ => [(a_trial, .inl (cI, 10, .inl trial))]) (fun r _ => P r) := by
  refine xMz_of (cc := cX0_isFreeIn) (maxL := 5) (by decide) rfl (Nat.le_of_ble_eq_true rfl) ?_
  intro X K hE
  have K : xk X l rm_X0_isFreeIn D vwCl (xtys cI cJ cZ cA) cX0_isFreeIn RX0 wsX0_isFreeIn 5 := K
  unfold q_X0_isFreeIn at h
  refine x_iconst (v := 0) (pc := 0) K dX0_isFreeIn_0 (by decide) ?_
  refine x_istore (lv' := [(0, .ref a_trial), (1, .int p1), (2, .int p2), (3, .int p3), (4, .int 0)]) (pc := 1) K dX0_isFreeIn_1 (by decide) rfl ?_
  obtain ⟨n2, h⟩ := h
  refine w_X0_isFreeIn_L3 K p1 p2 p3 trial _ _ n2 0 h (fun  h => ?_) (fun  h => ?_)
  · refine x_iconst (v := 1) (pc := 34) K dX0_isFreeIn_34 (by decide) ?_
    exact hE 1 () _ _ h.2 h.1 dX0_isFreeIn_35
  · refine x_iconst (v := 0) (pc := 26) K dX0_isFreeIn_26 (by decide) ?_
    exact hE 0 () _ _ h.2 h.1 dX0_isFreeIn_27
end
