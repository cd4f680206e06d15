section
-- ===== PART A: goes FIRST, ahead of the names: the tables' words, and 'selects' of the private methods out of them =====
/-- a private method of a class that the tables say can be made, by its rows of tables_1 -/
def lw_okq (q : MethodName × Nat) : Prop := (q.1.cls ≠ "java/lang/invoke/MethodHandle" ∧ q.1.cls ≠ "java/lang/invoke/VarHandle") ∧ Cond.instantiable q.1.cls q.2 ∈ tables_1 ∧ Cond.privateMethod q.1 ∈ tables_1 ∧ Cond.instanceMethod q.1 ∈ tables_1
theorem lw_p0 : lw_okq (⟨"FourTints", "markSetsOfNeighbours", "()V"⟩, 8) := ⟨⟨by decide +kernel, by decide +kernel⟩, List.mem_of_getElem? (i := 15) (by decide +kernel), List.mem_of_getElem? (i := 99) (by decide +kernel), List.mem_of_getElem? (i := 100) (by decide +kernel)⟩
theorem lw_p1 : lw_okq (⟨"FourTints", "wearing", "(I)I"⟩, 8) := ⟨⟨by decide +kernel, by decide +kernel⟩, List.mem_of_getElem? (i := 15) (by decide +kernel), List.mem_of_getElem? (i := 110) (by decide +kernel), List.mem_of_getElem? (i := 111) (by decide +kernel)⟩
theorem lw_p2 : lw_okq (⟨"FourTints", "giveLeastFree", "(I)I"⟩, 8) := ⟨⟨by decide +kernel, by decide +kernel⟩, List.mem_of_getElem? (i := 15) (by decide +kernel), List.mem_of_getElem? (i := 126) (by decide +kernel), List.mem_of_getElem? (i := 127) (by decide +kernel)⟩
theorem lw_p3 : lw_okq (⟨"FourTints", "leastFreeBeside", "(I)I"⟩, 8) := ⟨⟨by decide +kernel, by decide +kernel⟩, List.mem_of_getElem? (i := 15) (by decide +kernel), List.mem_of_getElem? (i := 130) (by decide +kernel), List.mem_of_getElem? (i := 131) (by decide +kernel)⟩
theorem lw_p4 : lw_okq (⟨"FourTints", "withNeighbours", "(I)I"⟩, 8) := ⟨⟨by decide +kernel, by decide +kernel⟩, List.mem_of_getElem? (i := 15) (by decide +kernel), List.mem_of_getElem? (i := 134) (by decide +kernel), List.mem_of_getElem? (i := 135) (by decide +kernel)⟩
theorem lw_p5 : lw_okq (⟨"FourTints", "tryFewest", "()I"⟩, 8) := ⟨⟨by decide +kernel, by decide +kernel⟩, List.mem_of_getElem? (i := 15) (by decide +kernel), List.mem_of_getElem? (i := 142) (by decide +kernel), List.mem_of_getElem? (i := 143) (by decide +kernel)⟩
theorem lw_p6 : lw_okq (⟨"java/lang/Throwable", "fillInStackTrace", "(I)Ljava/lang/Throwable;"⟩, 6) := ⟨⟨by decide +kernel, by decide +kernel⟩, List.mem_of_getElem? (i := 206) (by decide +kernel), List.mem_of_getElem? (i := 204) (by decide +kernel), List.mem_of_getElem? (i := 205) (by decide +kernel)⟩
theorem lw_p7 : lw_okq (⟨"FourTints", "ownerOf", "(J)I"⟩, 8) := ⟨⟨by decide +kernel, by decide +kernel⟩, List.mem_of_getElem? (i := 15) (by decide +kernel), List.mem_of_getElem? (i := 258) (by decide +kernel), List.mem_of_getElem? (i := 259) (by decide +kernel)⟩
theorem lw_p8 : lw_okq (⟨"FourTints", "cover", "(JI)V"⟩, 8) := ⟨⟨by decide +kernel, by decide +kernel⟩, List.mem_of_getElem? (i := 15) (by decide +kernel), List.mem_of_getElem? (i := 262) (by decide +kernel), List.mem_of_getElem? (i := 263) (by decide +kernel)⟩
theorem lw_p9 : lw_okq (⟨"FourTints", "findNeighbours", "()V"⟩, 8) := ⟨⟨by decide +kernel, by decide +kernel⟩, List.mem_of_getElem? (i := 15) (by decide +kernel), List.mem_of_getElem? (i := 266) (by decide +kernel), List.mem_of_getElem? (i := 267) (by decide +kernel)⟩
theorem lw_p10 : lw_okq (⟨"FourTints", "thoseIn", "(J)I"⟩, 8) := ⟨⟨by decide +kernel, by decide +kernel⟩, List.mem_of_getElem? (i := 15) (by decide +kernel), List.mem_of_getElem? (i := 270) (by decide +kernel), List.mem_of_getElem? (i := 271) (by decide +kernel)⟩
theorem lw_p11 : lw_okq (⟨"FourTints", "cellsOf", "(I)J"⟩, 8) := ⟨⟨by decide +kernel, by decide +kernel⟩, List.mem_of_getElem? (i := 15) (by decide +kernel), List.mem_of_getElem? (i := 282) (by decide +kernel), List.mem_of_getElem? (i := 283) (by decide +kernel)⟩
theorem lw_p12 : lw_okq (⟨"FourTints", "checkTinted", "(I)V"⟩, 8) := ⟨⟨by decide +kernel, by decide +kernel⟩, List.mem_of_getElem? (i := 15) (by decide +kernel), List.mem_of_getElem? (i := 379) (by decide +kernel), List.mem_of_getElem? (i := 380) (by decide +kernel)⟩
theorem lw_p13 : lw_okq (⟨"FourTints", "chainOf", "(II)I"⟩, 8) := ⟨⟨by decide +kernel, by decide +kernel⟩, List.mem_of_getElem? (i := 15) (by decide +kernel), List.mem_of_getElem? (i := 399) (by decide +kernel), List.mem_of_getElem? (i := 400) (by decide +kernel)⟩
theorem lw_p14 : lw_okq (⟨"FourTints", "markSetsWithoutNeighbours", "()V"⟩, 8) := ⟨⟨by decide +kernel, by decide +kernel⟩, List.mem_of_getElem? (i := 15) (by decide +kernel), List.mem_of_getElem? (i := 421) (by decide +kernel), List.mem_of_getElem? (i := 422) (by decide +kernel)⟩
theorem lw_p15 : lw_okq (⟨"FourTints", "shareOutOneSet", "()V"⟩, 8) := ⟨⟨by decide +kernel, by decide +kernel⟩, List.mem_of_getElem? (i := 15) (by decide +kernel), List.mem_of_getElem? (i := 428) (by decide +kernel), List.mem_of_getElem? (i := 429) (by decide +kernel)⟩
def lw_privs_1 : List (MethodName × Nat) := [(⟨"FourTints", "markSetsOfNeighbours", "()V"⟩, 8), (⟨"FourTints", "wearing", "(I)I"⟩, 8), (⟨"FourTints", "giveLeastFree", "(I)I"⟩, 8), (⟨"FourTints", "leastFreeBeside", "(I)I"⟩, 8), (⟨"FourTints", "withNeighbours", "(I)I"⟩, 8), (⟨"FourTints", "tryFewest", "()I"⟩, 8), (⟨"java/lang/Throwable", "fillInStackTrace", "(I)Ljava/lang/Throwable;"⟩, 6), (⟨"FourTints", "ownerOf", "(J)I"⟩, 8), (⟨"FourTints", "cover", "(JI)V"⟩, 8), (⟨"FourTints", "findNeighbours", "()V"⟩, 8), (⟨"FourTints", "thoseIn", "(J)I"⟩, 8), (⟨"FourTints", "cellsOf", "(I)J"⟩, 8), (⟨"FourTints", "checkTinted", "(I)V"⟩, 8), (⟨"FourTints", "chainOf", "(II)I"⟩, 8), (⟨"FourTints", "markSetsWithoutNeighbours", "()V"⟩, 8), (⟨"FourTints", "shareOutOneSet", "()V"⟩, 8)]
theorem lw_r1 : ∀ q ∈ lw_privs_1, lw_okq q := List.forall_mem_cons.mpr ⟨lw_p0, List.forall_mem_cons.mpr ⟨lw_p1, List.forall_mem_cons.mpr ⟨lw_p2, List.forall_mem_cons.mpr ⟨lw_p3, List.forall_mem_cons.mpr ⟨lw_p4, List.forall_mem_cons.mpr ⟨lw_p5, List.forall_mem_cons.mpr ⟨lw_p6, List.forall_mem_cons.mpr ⟨lw_p7, List.forall_mem_cons.mpr ⟨lw_p8, List.forall_mem_cons.mpr ⟨lw_p9, List.forall_mem_cons.mpr ⟨lw_p10, List.forall_mem_cons.mpr ⟨lw_p11, List.forall_mem_cons.mpr ⟨lw_p12, List.forall_mem_cons.mpr ⟨lw_p13, List.forall_mem_cons.mpr ⟨lw_p14, List.forall_mem_cons.mpr ⟨lw_p15, fun _ h => absurd h List.not_mem_nil⟩⟩⟩⟩⟩⟩⟩⟩⟩⟩⟩⟩⟩⟩⟩⟩
theorem lw_p16 : lw_okq (⟨"FourTints", "shareOutFrom", "(IJ)V"⟩, 8) := ⟨⟨by decide +kernel, by decide +kernel⟩, List.mem_of_getElem? (i := 15) (by decide +kernel), List.mem_of_getElem? (i := 432) (by decide +kernel), List.mem_of_getElem? (i := 433) (by decide +kernel)⟩
theorem lw_p17 : lw_okq (⟨"FourTintsModel", "goes", "(ZZZ)Z"⟩, 8) := ⟨⟨by decide +kernel, by decide +kernel⟩, List.mem_of_getElem? (i := 464) (by decide +kernel), List.mem_of_getElem? (i := 512) (by decide +kernel), List.mem_of_getElem? (i := 513) (by decide +kernel)⟩
theorem lw_p18 : lw_okq (⟨"FourTintsModel", "paints", "(II)I"⟩, 8) := ⟨⟨by decide +kernel, by decide +kernel⟩, List.mem_of_getElem? (i := 464) (by decide +kernel), List.mem_of_getElem? (i := 516) (by decide +kernel), List.mem_of_getElem? (i := 517) (by decide +kernel)⟩
theorem lw_p19 : lw_okq (⟨"FourTintsModel", "looks", "()V"⟩, 8) := ⟨⟨by decide +kernel, by decide +kernel⟩, List.mem_of_getElem? (i := 464) (by decide +kernel), List.mem_of_getElem? (i := 532) (by decide +kernel), List.mem_of_getElem? (i := 533) (by decide +kernel)⟩
theorem lw_p20 : lw_okq (⟨"FourTintsModel", "told", "(I)I"⟩, 8) := ⟨⟨by decide +kernel, by decide +kernel⟩, List.mem_of_getElem? (i := 464) (by decide +kernel), List.mem_of_getElem? (i := 545) (by decide +kernel), List.mem_of_getElem? (i := 546) (by decide +kernel)⟩
theorem lw_p21 : lw_okq (⟨"FourTintsModel", "piecesOf", "(I)I"⟩, 8) := ⟨⟨by decide +kernel, by decide +kernel⟩, List.mem_of_getElem? (i := 464) (by decide +kernel), List.mem_of_getElem? (i := 557) (by decide +kernel), List.mem_of_getElem? (i := 558) (by decide +kernel)⟩
theorem lw_p22 : lw_okq (⟨"FourTintsModel", "areNear", "(IZ)Z"⟩, 8) := ⟨⟨by decide +kernel, by decide +kernel⟩, List.mem_of_getElem? (i := 464) (by decide +kernel), List.mem_of_getElem? (i := 596) (by decide +kernel), List.mem_of_getElem? (i := 597) (by decide +kernel)⟩
theorem lw_p23 : lw_okq (⟨"FourTintsModel", "inConflict", "()I"⟩, 8) := ⟨⟨by decide +kernel, by decide +kernel⟩, List.mem_of_getElem? (i := 464) (by decide +kernel), List.mem_of_getElem? (i := 612) (by decide +kernel), List.mem_of_getElem? (i := 613) (by decide +kernel)⟩
theorem lw_p24 : lw_okq (⟨"FourTintsModel", "isThere", "(I)Z"⟩, 8) := ⟨⟨by decide +kernel, by decide +kernel⟩, List.mem_of_getElem? (i := 464) (by decide +kernel), List.mem_of_getElem? (i := 620) (by decide +kernel), List.mem_of_getElem? (i := 621) (by decide +kernel)⟩
theorem lw_p25 : lw_okq (⟨"FourTintsModel", "least", "(I)I"⟩, 8) := ⟨⟨by decide +kernel, by decide +kernel⟩, List.mem_of_getElem? (i := 464) (by decide +kernel), List.mem_of_getElem? (i := 628) (by decide +kernel), List.mem_of_getElem? (i := 629) (by decide +kernel)⟩
theorem lw_p26 : lw_okq (⟨"FourTintsModel", "isChain", "(II)Z"⟩, 8) := ⟨⟨by decide +kernel, by decide +kernel⟩, List.mem_of_getElem? (i := 464) (by decide +kernel), List.mem_of_getElem? (i := 636) (by decide +kernel), List.mem_of_getElem? (i := 637) (by decide +kernel)⟩
theorem lw_p27 : lw_okq (⟨"FourTintsModel", "links", "(II)I"⟩, 8) := ⟨⟨by decide +kernel, by decide +kernel⟩, List.mem_of_getElem? (i := 464) (by decide +kernel), List.mem_of_getElem? (i := 640) (by decide +kernel), List.mem_of_getElem? (i := 641) (by decide +kernel)⟩
theorem lw_p28 : lw_okq (⟨"FourTintsModel", "fewest", "()I"⟩, 8) := ⟨⟨by decide +kernel, by decide +kernel⟩, List.mem_of_getElem? (i := 464) (by decide +kernel), List.mem_of_getElem? (i := 656) (by decide +kernel), List.mem_of_getElem? (i := 657) (by decide +kernel)⟩
theorem lw_p29 : lw_okq (⟨"FourTintsModel", "begins", "()V"⟩, 8) := ⟨⟨by decide +kernel, by decide +kernel⟩, List.mem_of_getElem? (i := 464) (by decide +kernel), List.mem_of_getElem? (i := 660) (by decide +kernel), List.mem_of_getElem? (i := 661) (by decide +kernel)⟩
theorem lw_p30 : lw_okq (⟨"FourTintsModel", "adds", "()V"⟩, 8) := ⟨⟨by decide +kernel, by decide +kernel⟩, List.mem_of_getElem? (i := 464) (by decide +kernel), List.mem_of_getElem? (i := 664) (by decide +kernel), List.mem_of_getElem? (i := 665) (by decide +kernel)⟩
theorem lw_p31 : lw_okq (⟨"FourTintsModel", "next", "(II)I"⟩, 8) := ⟨⟨by decide +kernel, by decide +kernel⟩, List.mem_of_getElem? (i := 464) (by decide +kernel), List.mem_of_getElem? (i := 672) (by decide +kernel), List.mem_of_getElem? (i := 673) (by decide +kernel)⟩
def lw_privs_2 : List (MethodName × Nat) := [(⟨"FourTints", "shareOutFrom", "(IJ)V"⟩, 8), (⟨"FourTintsModel", "goes", "(ZZZ)Z"⟩, 8), (⟨"FourTintsModel", "paints", "(II)I"⟩, 8), (⟨"FourTintsModel", "looks", "()V"⟩, 8), (⟨"FourTintsModel", "told", "(I)I"⟩, 8), (⟨"FourTintsModel", "piecesOf", "(I)I"⟩, 8), (⟨"FourTintsModel", "areNear", "(IZ)Z"⟩, 8), (⟨"FourTintsModel", "inConflict", "()I"⟩, 8), (⟨"FourTintsModel", "isThere", "(I)Z"⟩, 8), (⟨"FourTintsModel", "least", "(I)I"⟩, 8), (⟨"FourTintsModel", "isChain", "(II)Z"⟩, 8), (⟨"FourTintsModel", "links", "(II)I"⟩, 8), (⟨"FourTintsModel", "fewest", "()I"⟩, 8), (⟨"FourTintsModel", "begins", "()V"⟩, 8), (⟨"FourTintsModel", "adds", "()V"⟩, 8), (⟨"FourTintsModel", "next", "(II)I"⟩, 8)]
theorem lw_r2 : ∀ q ∈ lw_privs_2, lw_okq q := List.forall_mem_cons.mpr ⟨lw_p16, List.forall_mem_cons.mpr ⟨lw_p17, List.forall_mem_cons.mpr ⟨lw_p18, List.forall_mem_cons.mpr ⟨lw_p19, List.forall_mem_cons.mpr ⟨lw_p20, List.forall_mem_cons.mpr ⟨lw_p21, List.forall_mem_cons.mpr ⟨lw_p22, List.forall_mem_cons.mpr ⟨lw_p23, List.forall_mem_cons.mpr ⟨lw_p24, List.forall_mem_cons.mpr ⟨lw_p25, List.forall_mem_cons.mpr ⟨lw_p26, List.forall_mem_cons.mpr ⟨lw_p27, List.forall_mem_cons.mpr ⟨lw_p28, List.forall_mem_cons.mpr ⟨lw_p29, List.forall_mem_cons.mpr ⟨lw_p30, List.forall_mem_cons.mpr ⟨lw_p31, fun _ h => absurd h List.not_mem_nil⟩⟩⟩⟩⟩⟩⟩⟩⟩⟩⟩⟩⟩⟩⟩⟩
theorem lw_p32 : lw_okq (⟨"FourTintsModel", "isApart", "(I)Z"⟩, 8) := ⟨⟨by decide +kernel, by decide +kernel⟩, List.mem_of_getElem? (i := 464) (by decide +kernel), List.mem_of_getElem? (i := 676) (by decide +kernel), List.mem_of_getElem? (i := 677) (by decide +kernel)⟩
theorem lw_p33 : lw_okq (⟨"FourTintsModel", "count", "(I)J"⟩, 8) := ⟨⟨by decide +kernel, by decide +kernel⟩, List.mem_of_getElem? (i := 464) (by decide +kernel), List.mem_of_getElem? (i := 684) (by decide +kernel), List.mem_of_getElem? (i := 685) (by decide +kernel)⟩
def lw_privs_3 : List (MethodName × Nat) := [(⟨"FourTintsModel", "isApart", "(I)Z"⟩, 8), (⟨"FourTintsModel", "count", "(I)J"⟩, 8)]
theorem lw_r3 : ∀ q ∈ lw_privs_3, lw_okq q := List.forall_mem_cons.mpr ⟨lw_p32, List.forall_mem_cons.mpr ⟨lw_p33, fun _ h => absurd h List.not_mem_nil⟩⟩
def lw_privs : List (MethodName × Nat) := lw_privs_1 ++ (lw_privs_2 ++ (lw_privs_3))
def lw_tbl : List Cond := k2_sels lw_privs ++ tables_1
theorem lw_privs_ok : ∀ q ∈ lw_privs, lw_okq q := by
  show ∀ q ∈ lw_privs_1 ++ (lw_privs_2 ++ (lw_privs_3)), lw_okq q
  exact List.forall_mem_append.mpr ⟨lw_r1, List.forall_mem_append.mpr ⟨lw_r2, lw_r3⟩⟩
end
section
/-! ===== BEGIN words of one list among another's, by their places ===== -/
theorem goodIn_r {big : List Cond} (ws : List Cond) (ps : List Nat) (hp : ws = ps.filterMap (fun i => big[i]?)) (h : ws.all goodWord = true) : GoodIn big ws := by
  intro w hw
  have h1 := List.all_eq_true.mp h w hw
  rw [hp] at hw
  obtain ⟨i, -, hi⟩ := List.mem_filterMap.mp hw
  have hm : w ∈ big := by first | exact List.mem_of_getElem? hi | exact List.getElem?_mem hi
  exact ⟨hm, good_of_word h1⟩
theorem goodIn_app {big a b : List Cond} (ha : GoodIn big a) (hb : GoodIn big b) : GoodIn big (a ++ b) := fun w h => (List.mem_append.mp h).elim (ha w) (hb w)
theorem goodIn_ca {big a b : List Cond} {c : Cond} (ha : GoodIn big (c :: a)) (hb : GoodIn big b) : GoodIn big (c :: (a ++ b)) := fun w h => (List.mem_cons.mp h).elim (fun e => ha w (List.mem_cons.mpr (Or.inl e))) (fun h => (List.mem_append.mp h).elim (fun h => ha w (List.mem_cons.mpr (Or.inr h))) (hb w))
theorem goodIn_sub {big ws : List Cond} (hm : ∀ w ∈ ws, w ∈ big) (h : ws.all goodWord = true) : GoodIn big ws := fun w hw => ⟨hm w hw, good_of_word (List.all_eq_true.mp h w hw)⟩
/-! ===== END ===== -/

/-! ===== BEGIN new T[n][m]: the outer array a place, the inner ones among the pooled ===== -/
/-- f, but v at every address of l -/
def vr_up {α : Type} (f : Nat → α) (l : List Nat) (v : α) : Nat → α := fun a => if a ∈ l then v else f a
theorem vr_up_in {α : Type} {f : Nat → α} {l : List Nat} {v : α} {a : Nat} (h : a ∈ l) : vr_up f l v a = v := if_pos h
theorem vr_up_ne {α : Type} {f : Nat → α} {l : List Nat} {v : α} {a : Nat} (h : a ∉ l) : vr_up f l v a = f a := if_neg h
theorem vr_rows {L l : List Nat} {f : Nat → va_E} {e : va_E} (h : ∀ a, a ∈ l → a ∉ L) : va_pl L f ++ l.map (fun a => (a, e)) = va_pl (L ++ l) (vr_up f l e) := by
  unfold va_pl
  rw [List.map_append]
  congr 1
  · apply List.map_congr_left
    intro a ha
    rw [vr_up_ne (fun q => h a q ha)]
  · apply List.map_congr_left
    intro a ha
    rw [vr_up_in ha]
theorem vr_lay {X rows : va_W} {x : Nat × va_E} {pl : va_W} {D : va_G} {cl : List vw_C} {H : Heap} (hP : va_P D cl (((X ++ pl) ++ [x]) ++ rows) H) : va_P D cl ((X ++ [x]) ++ (pl ++ rows)) H := by
  rw [List.append_assoc (X ++ pl)] at hP
  have h := va_P.swap hP
  rw [← List.append_assoc X] at h
  have h2 := va_P.swap h
  rw [List.append_assoc (X ++ [x])] at h2
  exact h2
theorem vr_layD {X rows : va_W} {x : Nat × va_E} {pl : va_W} {A : Nat → Prop} (hD : va_D A (((X ++ pl) ++ [x]) ++ rows)) : va_D A ((X ++ [x]) ++ (pl ++ rows)) := by
  rw [List.append_assoc (X ++ pl)] at hD
  have h := va_D.swap hD
  rw [← List.append_assoc X] at h
  have h2 := va_D.swap h
  rw [List.append_assoc (X ++ [x])] at h2
  exact h2
theorem vr_outer (c : ClassId) (N h0 : Nat) : ∀ i : Nat, Jvm.Free.Multi.outerC c N h0 i = arrV c N (fun j => va_rf (if j < i then some (h0 + 1 + j) else none))
  | 0 => by
    show ({ cls := c, slots := Array.replicate N .null, vm := .none } : Cell) = _
    rw [arrV_new]
    refine congrArg (arrV c N) (funext fun j => ?_)
    simp [va_rf]
  | i + 1 => by
    show (Jvm.Free.Multi.outerC c N h0 i).setSlot i (.ref (h0 + 1 + i)) = _
    rw [vr_outer c N h0 i, arrV_store]
    refine congrArg (arrV c N) (funext fun j => ?_)
    by_cases e : j = i
    · subst e
      simp [updV, va_rf]
    · by_cases h : j < i
      · simp [updV, e, h, Nat.lt_succ_of_lt h]
      · simp [updV, e, h, show ¬ j < i + 1 by omega]
section VGM
variable {p : Program} {l : Launch} {e : Env} {R : Room} {s : State} {m : MethodId} {args : Array Value} {below : List Frame} {meth : Method} {c : Code} {H : Heap} {locs : List Loc} {cells slots : Nat} {Q : State → Prop}
variable {cc : ByteArray} {pc : Nat} {ls : Array Slot} {rest : List Value} {D : va_G} {cl : List vw_C} {A : Nat → Prop} {a : Nat} {tys : List (ClassId × FieldType)} {ws : va_W} {H0 : Heap}
theorem va_mna {X : va_W} {L : List Nat} {f : Nat → va_E} {cc : ByteArray} (hexec : p.tables.exec = Jvm.exec) (hb : c.code = cc) {own : String} {index : Nat} {ty : FieldType} {cy : ClassId} (hown : s.vm.findClass own = some m.cls) (hclink : (Cond.classLink own index ("[" ++ (FieldType.array ty).toString)).before args s = true) (hover : (Cond.arrayOver (.array ty)).before args s = true) (harr : (Cond.arrayClass ty).before args s = true) (hcy : s.vm.findClass (FieldType.array ty).toString = some cy)
    (hK : va_K D cl tys s) (hP : va_P D cl (X ++ va_pl L f) H) (hD : va_D A (X ++ va_pl L f)) (hS : va_S A H0 H locs) (hA : ∀ q, H0.size ≤ q → A q) {n k : Int32} {N' K' : Nat} {z : vp_A} (hn : ¬ n < 0) (hk : ¬ k < 0) (hN : n.toNatClampNeg = N') (hM : k.toNatClampNeg = K')
    (hb1 : N' * 4 ≤ 536870912) (hb2 : K' * componentBytes ty ≤ 536870912) (hb3 : K' ≤ 536870912) (hdf : fits ty (defaultValue ty) = true) (hdd : (defaultValue ty).isDefault = true) (hcells : cells + (1 + N') ≤ R.cells) (hslots : slots + (N' + N' * K') ≤ R.slots) (hz : ∀ c : ClassId, Jvm.Free.Multi.innerC c K' (defaultValue ty) = vp_cell c z) (hdg : decode cc pc = .ok (.multianewarray index 2, 4))
    (kk : ∀ (q : Nat) (r : Nat → Nat) (cA : ClassId) (H1 : Heap), (∀ i j : Nat, i < N' → j < N' → r i = r j → i = j) → (∀ i : Nat, i < N' → r i ∉ L) → va_K D cl (tys ++ [(cA, .array ty)]) s →
      va_P D cl ((X ++ [(q, .inl (cA, N', .inr (.inr (.inr (.inr (fun i => if i < N' then some (r i) else none))))))]) ++ va_pl (L ++ (List.range N').map r) (vr_up f ((List.range N').map r) (.inl (cy, z)))) H1 → va_D A ((X ++ [(q, .inl (cA, N', .inr (.inr (.inr (.inr (fun i => if i < N' then some (r i) else none))))))]) ++ va_pl (L ++ (List.range N').map r) (vr_up f ((List.range N').map r) (.inl (cy, z)))) → va_S A H0 H1 locs →
      W p l e R s m args below meth c H1 locs (cells + 1 + N') (slots + N' + N' * K') Q (F0 m (pc + 4) ls (.ref q :: rest))) : W p l e R s m args below meth c H locs cells slots Q (F0 m pc ls (.int k :: .int n :: rest)) := by
  subst hN
  subst hM
  intro T hT Xs
  obtain ⟨vm₁, cA, comp, -, fA, fC, hO, -, X', step⟩ := Xs.multianewarray2F hexec hown hclink hover harr (g := F0 m pc ls (.int k :: .int n :: rest)) rfl (by rw [hb]; exact hdg) rfl hn hk hb1 hb2 hb3 hdf hdd hcells hslots
  have ec : some cy = some comp := hcy.symm.trans fC
  cases ec
  generalize hF : Jvm.Free.Multi.fill (T.setVm vm₁) cA cy n.toNatClampNeg k.toNatClampNeg (defaultValue ty) n.toNatClampNeg = F at X' step
  have hTh : (T.setVm vm₁).heap = H := hT
  obtain ⟨f1, f2, -, -⟩ := Jvm.Free.Multi.fill_facts (T.setVm vm₁) cA cy n.toNatClampNeg k.toNatClampNeg (defaultValue ty) n.toNatClampNeg
  rw [hF, hTh] at f1 f2
  have hold : ∀ x : Nat, x < H.size → F.heap[x]? = H[x]? := fun x hx => by
    have := Jvm.Free.Multi.fill_old (T.setVm vm₁) cA cy n.toNatClampNeg k.toNatClampNeg (defaultValue ty) (a := x) (by rw [hTh]; exact hx) n.toNatClampNeg
    rw [hF, hTh] at this
    exact this
  have hrow : ∀ j : Nat, j < n.toNatClampNeg → F.heap[H.size + 1 + j]? = some (vp_cell cy z) := fun j hj => by
    have := Jvm.Free.Multi.fill_inner (T.setVm vm₁) cA cy n.toNatClampNeg k.toNatClampNeg (defaultValue ty) n.toNatClampNeg j hj
    rw [hF, hTh, hz] at this
    exact this
  have hout : Jvm.Free.Multi.outerC cA n.toNatClampNeg H.size n.toNatClampNeg = vp_cell cA (n.toNatClampNeg, .inr (.inr (.inr (.inr (fun i => if i < n.toNatClampNeg then some (H.size + 1 + i) else none))))) := by
    rw [vp_cell_q]
    exact vr_outer cA n.toNatClampNeg H.size n.toNatClampNeg
  rw [hout] at f2
  have hlt : ∀ a, a ∈ L → a < H.size := fun a ha => by
    obtain ⟨k9, hk9⟩ := va_pl_get (X := X) (f := f) ha
    exact (hP k9 _ hk9).lt
  have hnl : ∀ i : Nat, i < n.toNatClampNeg → H.size + 1 + i ∉ L := fun i _ h => by
    have := hlt _ h
    omega
  have hnm : ∀ a, a ∈ (List.range n.toNatClampNeg).map (fun i => H.size + 1 + i) → a ∉ L := fun a ha h => by
    obtain ⟨i, -, rfl⟩ := List.mem_map.mp ha
    have := hlt _ h
    omega
  have hP0 : va_P D cl (X ++ va_pl L f) F.heap := hP.kept (fun k9 x hx => hold x.1 ((hP k9 x hx).lt))
  have hP1 : va_P D cl ((X ++ va_pl L f) ++ [(H.size, .inl (cA, n.toNatClampNeg, .inr (.inr (.inr (.inr (fun i => if i < n.toNatClampNeg then some (H.size + 1 + i) else none))))))]) F.heap := hP0.app (fun k9 x hx => by
    have h0 : k9 < 1 := (List.getElem?_eq_some_iff.mp hx).1
    rw [show k9 = 0 by omega] at hx
    cases hx
    exact f2)
  have hP2 : va_P D cl (((X ++ va_pl L f) ++ [(H.size, .inl (cA, n.toNatClampNeg, .inr (.inr (.inr (.inr (fun i => if i < n.toNatClampNeg then some (H.size + 1 + i) else none))))))]) ++ ((List.range n.toNatClampNeg).map (fun i => H.size + 1 + i)).map (fun a => (a, .inl (cy, z)))) F.heap := hP1.app (fun k9 x hx => by
    obtain ⟨a, ha, rfl⟩ := List.mem_map.mp (List.mem_of_getElem? hx)
    obtain ⟨i, hi, rfl⟩ := List.mem_map.mp ha
    exact hrow i (List.mem_range.mp hi))
  have hD2 : va_D A (((X ++ va_pl L f) ++ [(H.size, .inl (cA, n.toNatClampNeg, .inr (.inr (.inr (.inr (fun i => if i < n.toNatClampNeg then some (H.size + 1 + i) else none))))))]) ++ ((List.range n.toNatClampNeg).map (fun i => H.size + 1 + i)).map (fun a => (a, .inl (cy, z)))) := by
    have hD1 := hD.push (e := .inl (cA, n.toNatClampNeg, .inr (.inr (.inr (.inr (fun i => if i < n.toNatClampNeg then some (H.size + 1 + i) else none)))))) hP rfl (hA _ hS.1)
    generalize hW1 : (X ++ va_pl L f) ++ [(H.size, .inl (cA, n.toNatClampNeg, .inr (.inr (.inr (.inr (fun i => if i < n.toNatClampNeg then some (H.size + 1 + i) else none))))))] = W1 at hD1 hP1 ⊢
    have hle : ∀ (k9 : Nat) (x : Nat × va_E), W1[k9]? = some x → x.1 ≤ H.size := fun k9 x hx => by
      rw [← hW1] at hx
      by_cases hl : k9 < (X ++ va_pl L f).length
      · rw [List.getElem?_append_left hl] at hx
        exact Nat.le_of_lt ((hP k9 x hx).lt)
      · rw [List.getElem?_append_right (by omega)] at hx
        have h0 : k9 - (X ++ va_pl L f).length < 1 := (List.getElem?_eq_some_iff.mp hx).1
        rw [show k9 - (X ++ va_pl L f).length = 0 by omega] at hx
        cases hx
        exact Nat.le_refl _
    have hr : ∀ (k9 : Nat) (x : Nat × va_E), (((List.range n.toNatClampNeg).map (fun i => H.size + 1 + i)).map (fun a => ((a, .inl (cy, z)) : Nat × va_E)))[k9]? = some x → x.1 = H.size + 1 + k9 := fun k9 x hx => by
      rw [List.getElem?_map, List.getElem?_map] at hx
      by_cases h9 : k9 < n.toNatClampNeg
      · rw [List.getElem?_range h9] at hx
        cases hx
        rfl
      · have hn0 : (List.range n.toNatClampNeg)[k9]? = none := List.getElem?_eq_none (by rw [List.length_range]; omega)
        rw [hn0] at hx
        cases hx
    refine ⟨fun i j x y hi hj hxy => ?_, fun k9 x hx => ?_⟩
    · by_cases h1 : i < W1.length <;> by_cases h2 : j < W1.length
      · rw [List.getElem?_append_left h1] at hi
        rw [List.getElem?_append_left h2] at hj
        exact hD1.1 i j x y hi hj hxy
      · rw [List.getElem?_append_left h1] at hi
        rw [List.getElem?_append_right (by omega)] at hj
        have := hle _ _ hi
        have := hr _ _ hj
        omega
      · rw [List.getElem?_append_right (by omega)] at hi
        rw [List.getElem?_append_left h2] at hj
        have := hle _ _ hj
        have := hr _ _ hi
        omega
      · rw [List.getElem?_append_right (by omega)] at hi hj
        have := hr _ _ hi
        have := hr _ _ hj
        omega
    · by_cases h1 : k9 < W1.length
      · rw [List.getElem?_append_left h1] at hx
        exact hD1.2 k9 x hx
      · rw [List.getElem?_append_right (by omega)] at hx
        have := hr _ _ hx
        exact hA _ (by have := hS.1; omega)
  have hAr : ArrOfT s cA (.array ty) := fun N9 z9 => by
    obtain ⟨-, k9, hk9, cm9, hkk9⟩ := (hO 0 0 0).1
    exact ⟨(fun q hq => by cases hq), k9, hk9, cm9, hkk9⟩
  have hK2 : va_K D cl (tys ++ [(cA, .array ty)]) s := ⟨hK.1, fun k9 x hx => by
    by_cases hl : k9 < tys.length
    · rw [List.getElem?_append_left hl] at hx
      exact hK.2 k9 x hx
    · rw [List.getElem?_append_right (by omega)] at hx
      have h0 : k9 - tys.length < 1 := (List.getElem?_eq_some_iff.mp hx).1
      rw [show k9 - tys.length = 0 by omega] at hx
      cases hx
      exact ⟨hAr, fA⟩⟩
  obtain ⟨t, a1, b1⟩ := kk H.size (fun i => H.size + 1 + i) cA F.heap (fun i j _ _ h => by have h9 : H.size + 1 + i = H.size + 1 + j := h; omega) hnl hK2 (by rw [← vr_rows hnm]; exact vr_lay hP2) (by rw [← vr_rows hnm]; exact vr_layD hD2) ⟨by rw [f1]; have := hS.1; omega, fun x h1 h2 => (hold x (Nat.lt_of_lt_of_le h1 hS.1)).trans (hS.2.1 x h1 h2), hS.2.2⟩ F rfl X'
  refine ⟨t, step t ?_, b1⟩
  have e : T.heap.size = H.size := by rw [hT]
  rw [e]
  exact a1
end VGM
/-! ===== END ===== -/

/-! ===== BEGIN exceptions that leave a method, and their catching by the caller (launches without stack traces) ===== -/
section VXA
/-! The laws vx_back, vx_callV, vx_callS, vx_callSW, vx_throw0, vx_throwS follow proofs of the library, with one case more: JvmDerived/Free/Laws.lean (Back.of_free), Shelf42/LK1.lean (callV, callS), Shelf/KitTraced.lean (throwNew0V, throwNewS). -/
/-- where a method has thrown q: the class by its name, the cell, what was written, the world -/
def vx_T (XC : String → State → State → Prop) (st : State) (q : Addr) (t : State) (mc ms : Nat) (free : Addr → Prop) : Prop :=
  ∃ (E : String) (ce : Cell) (L : List Loc), XC E st t ∧ t.heap[q]? = some ce ∧ ce.vm = .none ∧ st.vm.findClass E = some ce.cls ∧ st.WarmedH t.vm ∧ st.sameButNew ({ t with vm := st.vm } : State) L mc ms ∧ ∀ z ∈ L, free z.base
def vx_Q (Qc : Array Value → State → Outcome → State → Prop) (XC : String → State → State → Prop) (mc ms : Nat) (free : Addr → Prop) : Array Value → State → Outcome → State → Prop := fun a st o t =>
  (Qc a st o t ∧ ∃ L, FrameEnd st o t L mc ms ∧ ∀ q ∈ L, free q.base) ∨ ∃ q, o = .threw q ∧ vx_T XC st q t mc ms free
/-- a callee that returns or throws -/
def vx_Met (l : Launch) (y : MethodName) (ws : List Cond) (rm : Room) (Pc : Array Value → State → Prop) (Qc : Array Value → State → Outcome → State → Prop) (XC : String → State → State → Prop) (mc ms : Nat) (free : Addr → Prop) : Prop :=
  MetFree l y (headSpec ws rm) Pc (fun _ _ _ _ _ => True) (vx_Q Qc XC mc ms free)
def vx_Post (XC : String → State → State → Prop) (mc ms : Nat) (free : Addr → Prop) : Pt → Array Value → Addr → Pt → Prop := fun A a q B =>
  ∃ (g : JFrame) (mk : MethodId) (t : State) (L : List Loc) (E : String) (ce : Cell), B.U.heap = t.heap ∧ B.U.vm = t.vm ∧ XC E (A.U.calling g mk a) t ∧ t.heap[q]? = some ce ∧ ce.vm = .none ∧ A.U.vm.findClass E = some ce.cls ∧ B.locs = A.locs ++ L ∧ (∀ z ∈ L, free z.base) ∧ B.cells = A.cells + mc ∧ B.slots = A.slots + ms
def vx_Back (l : Launch) (R : Room) (p : Program) (e : Env) (below : List Frame) (s : State) (sargs : Array Value) (y : MethodName) (len W9 : Nat)
    (Pre : Pt → Array Value → Prop) (Post : Pt → Array Value → Option Value → Pt → Prop) (PostX : Pt → Array Value → Addr → Pt → Prop) : Prop :=
  ∀ (m : MethodId) (meth : Method) (c : Code) (A : Pt) (g : JFrame) (ig : Instr) (mk : MethodId) (a : Array Value),
    Stand p l e R s m sargs below meth c A.U A.locs A.cells A.slots → g.method = m → g.locals.size = c.maxLocals → decode c.code g.pc = .ok (ig, len) →
    2 * g.monitorRoom + (g.stack.map fun v => v.category).sum ≤ W9 → A.U.methodNamed? y = some mk → Pre A a →
    (∃ (v : Option Value) (B : Pt), Stand p l e R s m sargs below meth c B.U B.locs B.cells B.slots ∧ Post A a v B ∧
      Steps p.tables e below (doInvoke e (A.U.setTop g) [] mk a).1 (B.U.setTop { g with pc := g.pc + len, stack := v.toList ++ g.stack })) ∨
    (∃ (q : Addr) (B : Pt), Stand p l e R s m sargs below meth c B.U B.locs B.cells B.slots ∧ PostX A a q B ∧
      Steps p.tables e below (doInvoke e (A.U.setTop g) [] mk a).1 ((B.U.setTop g).pushFrame (.throwing q)))
section Payer
variable {l : Launch} {R : Room} {p : Program} {e : Env} {below : List Frame} {s : State} {sargs : Array Value} {y : MethodName} {len W9 : Nat}
theorem vx_back {ws : List Cond} {rm : Room} {Pc : Array Value → State → Prop} {Qc : Array Value → State → Outcome → State → Prop} {XC : String → State → State → Prop} {mc ms : Nat} {free : Addr → Prop} {bytes : ByteArray} {maxL : Nat} {ret : Option FieldType}
    (hM : vx_Met l y ws rm Pc Qc XC mc ms free) (hblind : FrameBlind Pc) (hrc : rm.cells = mc) (hrs : rm.slots = ms)
    (hframes : rm.frames + 1 ≤ R.frames) (hlocals : W9 + (maxL + 11) + rm.locals ≤ R.locals)
    (hws : ∀ w ∈ ws, ∀ a' U, s.WarmedH U.vm → w.before a' U = true) (hcode : Cond.code y bytes maxL ret ∈ ws) (hinit : ∀ a' U, s.WarmedH U.vm → (Cond.initialized y.cls).before a' U = true) :
    vx_Back l R p e below s sargs y len W9 (PreOf R mc ms Pc) (PostOf Qc mc ms free) (vx_Post XC mc ms free) := by
  intro m meth c A g ig mk a X hg hsize hdg hW hn hp
  have h1 : (headSpec ws rm).pre.before a A.U = true := atoms_intro fun w hw => hws w hw _ _ X.warmed
  have h2 : (Cond.code y bytes maxL ret).before a A.U = true := hws _ hcode _ _ X.warmed
  have h3 : (Cond.initialized y.cls).before a A.U = true := hinit _ _ X.warmed
  have h4 : A.cells + (headSpec ws rm).room.cells ≤ R.cells := by rw [show (headSpec ws rm).room.cells = mc from hrc]; exact hp.1
  have h5 : A.slots + (headSpec ws rm).room.slots ≤ R.slots := by rw [show (headSpec ws rm).room.slots = ms from hrs]; exact hp.2.1
  have hPc : Pc a (A.U.calling g mk a) := hblind _ _ _ _ hp.2.2
  obtain ⟨U, Ls, c0, s0⟩ := A
  dsimp only [Pt.U, Pt.locs, Pt.cells, Pt.slots] at h1 h2 h3 h4 h5 X hn hPc ⊢
  obtain ⟨methY, cY, hmY, hcY, -, hlY, -, -, -, -⟩ := Cond.code_spec hn h2
  obtain ⟨kY, hkY, -⟩ := className_of_methodNamed hn
  have hinitY : kY.init = .initialized := Cond.initialized_spec (findClass_of_methodNamed hn) hkY h3
  have h : At U g.method c below := by rw [hg]; exact X.here
  have hlocals9 : W9 + (maxL + 11) + (headSpec ws rm).room.locals ≤ R.locals := hlocals
  have happ : (headSpec ws rm).appliesLoose y e.platform (U.calling g mk a) = true :=
    Spec.appliesLoose_calling (g := g) h hdg hn hkY hinitY
      (X.room_calling (g := g) (R' := (headSpec ws rm).room) hsize hmY hcY hframes (by rw [hlY]; omega) h4 h5) h1
  obtain ⟨mid, hmid⟩ := h.above
  have hfr : (U.setTop g).frames = (.java g :: mid) ++ below := by rw [State.frames_setTop' g h.top, hmid]; rfl
  obtain ⟨o, s₂, hsteps, -, hend, hq⟩ := Steps.callFree hM p X.admits X.cas X.clock (acts := []) hfr happ hPc trivial
  have hq' : vx_Q Qc XC mc ms free a (U.calling g mk a) o s₂ := hq
  rw [State.frames_setTop' g h.top] at hend
  obtain ⟨g₀, hg0⟩ := Option.isSome_iff_exists.mp h.top
  obtain ⟨r, hr⟩ := State.topJava?_eq_some.mp hg0
  have hr' : (({ U with heap := s₂.heap, slotsUsed := s₂.slotsUsed } : State).setVm s₂.vm).frames = .java g₀ :: r := hr
  rcases hq' with ⟨hqc, L, hfe, hL⟩ | ⟨q, rfl, E, ce, L, hx, hce, hcv, hcl, hW₂, hsm, hL⟩
  · obtain ⟨⟨v, rfl⟩, hW₂, e2, q2, q3, q4, q5, q6⟩ := id hfe
    have e3 : s₂ = ({ (U.calling g mk a).setFrames s₂.frames with heap := s₂.heap, slotsUsed := s₂.slotsUsed } : State).setVm s₂.vm := by
      have : s₂ = ({ s₂ with vm := (U.calling g mk a).vm } : State).setVm s₂.vm := rfl
      rw [e2] at this
      exact this
    obtain ⟨c₂, i₂, len₂, hc₂, hd₂, hf₂⟩ := hend
    have hW' : U.WarmedH s₂.vm := hW₂
    have hcc : c₂ = c := by
      have h1 : s₂.code? g.method = U.code? g.method := by
        rw [State.code?_eq, State.code?_eq, hW'.alike.method?]
      exact Option.some.inj (hc₂.symm.trans (h1.trans h.code))
    subst hcc
    have hlen : len₂ = len := by rw [hdg] at hd₂; cases hd₂; rfl
    subst hlen
    have hs₂ : s₂ = (({ U with heap := s₂.heap, slotsUsed := s₂.slotsUsed } : State).setVm s₂.vm).setTop { g with pc := g.pc + len₂, stack := v.toList ++ g.stack } := by
      refine e3.trans ?_
      rw [hf₂, State.calling_eq h.top, State.setFrames_setFrames, State.setTop_of_frames _ hr', hr]
      rfl
    have hsame : U.sameButNew ({ U with heap := s₂.heap, slotsUsed := s₂.slotsUsed } : State) L mc ms := by
      refine ⟨?_, q2, q3, q4, q5, q6⟩
      obtain ⟨t, ht, -⟩ := State.frames_cons hr
      show ({ U with heap := s₂.heap, slotsUsed := s₂.slotsUsed } : State) = { U.setFrames U.frames with heap := s₂.heap, slotsUsed := s₂.slotsUsed }
      rw [State.setFrames_self ht]
    subst hg
    refine Or.inl ⟨v, ⟨(({ U with heap := s₂.heap, slotsUsed := s₂.slotsUsed } : State).setVm s₂.vm), Ls ++ L, c0 + mc, s0 + ms⟩,
      ⟨X.admits, X.cas, X.clock, X.frames, X.room, X.hears, X.method, X.code, (X.here.setHeapUsed s₂.heap s₂.slotsUsed).setVm hW'.alike, X.tail, State.WarmedH.trans X.warmed hW', X.limits, X.bytes, X.same.trans (hsame.setVm s.vm)⟩,
      ⟨g, mk, s₂, L, rfl, rfl, hqc, rfl, hL, rfl, rfl⟩, ?_⟩
    show Steps p.tables e below _ ((({ U with heap := s₂.heap, slotsUsed := s₂.slotsUsed } : State).setVm s₂.vm).setTop { g with pc := g.pc + len₂, stack := v.toList ++ g.stack })
    rw [← hs₂]
    exact hsteps
  · obtain ⟨e2, q2, q3, q4, q5, q6⟩ := id hsm
    have e3 : s₂ = ({ (U.calling g mk a).setFrames s₂.frames with heap := s₂.heap, slotsUsed := s₂.slotsUsed } : State).setVm s₂.vm := by
      have : s₂ = ({ s₂ with vm := (U.calling g mk a).vm } : State).setVm s₂.vm := rfl
      rw [e2] at this
      exact this
    have hf₂ : s₂.frames = .throwing q :: .java g :: U.frames.tail := hend
    have hW' : U.WarmedH s₂.vm := hW₂
    have hs₂ : s₂ = ((({ U with heap := s₂.heap, slotsUsed := s₂.slotsUsed } : State).setVm s₂.vm).setTop g).pushFrame (.throwing q) := by
      refine e3.trans ?_
      rw [hf₂, State.calling_eq h.top, State.setFrames_setFrames, State.pushFrame, State.frames_setTop _ hr', State.setTop_of_frames _ hr', State.setFrames_setFrames, hr]
      rfl
    have hsame : U.sameButNew ({ U with heap := s₂.heap, slotsUsed := s₂.slotsUsed } : State) L mc ms := by
      refine ⟨?_, q2, q3, q4, q5, q6⟩
      obtain ⟨t, ht, -⟩ := State.frames_cons hr
      show ({ U with heap := s₂.heap, slotsUsed := s₂.slotsUsed } : State) = { U.setFrames U.frames with heap := s₂.heap, slotsUsed := s₂.slotsUsed }
      rw [State.setFrames_self ht]
    subst hg
    refine Or.inr ⟨q, ⟨(({ U with heap := s₂.heap, slotsUsed := s₂.slotsUsed } : State).setVm s₂.vm), Ls ++ L, c0 + mc, s0 + ms⟩,
      ⟨X.admits, X.cas, X.clock, X.frames, X.room, X.hears, X.method, X.code, (X.here.setHeapUsed s₂.heap s₂.slotsUsed).setVm hW'.alike, X.tail, State.WarmedH.trans X.warmed hW', X.limits, X.bytes, X.same.trans (hsame.setVm s.vm)⟩,
      ⟨g, mk, s₂, L, E, ce, rfl, rfl, hx, hce, hcv, hcl, rfl, hL, rfl, rfl⟩, ?_⟩
    show Steps p.tables e below _ (((({ U with heap := s₂.heap, slotsUsed := s₂.slotsUsed } : State).setVm s₂.vm).setTop g).pushFrame (.throwing q))
    rw [← hs₂]
    exact hsteps
end Payer
section Calls
variable {p : Program} {l : Launch} {e : Env} {R : Room} {s : State} {m : MethodId} {args : Array Value} {below : List Frame} {meth : Method} {c : Code} {T : State} {locs : List Loc} {cells slots : Nat}
theorem vx_callV (X : Stand p l e R s m args below meth c T locs cells slots) (hexec : p.tables.exec = Jvm.exec) {own C : String} {index : Nat} {y : MethodName} {bytes : ByteArray} {maxL : Nat} {ret : Option FieldType}
    (hown : s.vm.findClass own = some m.cls) (hlink : (Cond.methodLink own index y).before args s = true) (hinst : (Cond.instanceMethod y).before args s = true) (hsel : (Cond.selects C y y).before args s = true)
    (hcode : (Cond.code y bytes maxL ret).before args s = true) (hy : y.cls ≠ "java/lang/invoke/MethodHandle" ∧ y.cls ≠ "java/lang/invoke/VarHandle")
    {W9 : Nat} {Pre : Pt → Array Value → Prop} {Post : Pt → Array Value → Option Value → Pt → Prop} {PostX : Pt → Array Value → Addr → Pt → Prop} (hK : vx_Back l R p e below s args y 3 W9 Pre Post PostX)
    {b : Addr} {cellB : Cell} (hcell : T.heap[b]? = some cellB) (hobj : cellB.vm.isStatics = false) (hcls : s.vm.findClass C = some cellB.cls)
    {g : JFrame} (hg : g.method = m) (hsize : g.locals.size = c.maxLocals) {argsL rest : List Value} (hlen : ∀ sig, parseMethodDescriptor y.desc = some sig → argsL.length = sig.parameters.length)
    (hstack : g.stack = argsL.reverse ++ .ref b :: rest) (hW : 2 * g.monitorRoom + (rest.map fun v => v.category).sum ≤ W9) (hdg : decode c.code g.pc = .ok (.invokevirtual index, 3))
    (hpre : ∀ vm₁, s.WarmedH vm₁ → Pre ⟨T.setVm vm₁, locs, cells, slots⟩ (Value.ref b :: argsL).toArray) :
    (∃ (v : Option Value) (vm₁ : Vm) (B : Pt), s.WarmedH vm₁ ∧ Stand p l e R s m args below meth c B.U B.locs B.cells B.slots ∧ Post ⟨T.setVm vm₁, locs, cells, slots⟩ (Value.ref b :: argsL).toArray v B ∧
      ∀ target, Steps p.tables e below (B.U.setTop { g with pc := g.pc + 3, stack := v.toList ++ rest }) target → Steps p.tables e below (T.setTop g) target) ∨
    (∃ (q : Addr) (vm₁ : Vm) (B : Pt), s.WarmedH vm₁ ∧ Stand p l e R s m args below meth c B.U B.locs B.cells B.slots ∧ PostX ⟨T.setVm vm₁, locs, cells, slots⟩ (Value.ref b :: argsL).toArray q B ∧
      Steps p.tables e below (T.setTop g) ((B.U.setTop { g with stack := rest }).pushFrame (.throwing q))) := by
  obtain ⟨mk, methM, hnamed, hmethM, hstM, habM⟩ := Cond.instanceMethod_spec hinst
  obtain ⟨methM', cM, hmethM', -, -, -, -, -, -, hsigM⟩ := Cond.code_spec hnamed hcode
  cases hmethM.symm.trans hmethM'
  obtain ⟨c2, r2, m2, q1, q2, q3, q4, kP, hkP, hkPi⟩ := Cond.selects_spec hsel
  cases hcls.symm.trans q1
  cases (State.methodFound?_of_named hnamed hy).symm.trans q2
  cases hnamed.symm.trans q3
  have hselP : selectMethod e.platform s.vm cellB.cls mk = .method mk := by rw [Launch.admits_selectMethod X.admits]; exact q4
  obtain ⟨vm₁, X₁, hstep₁⟩ := X.invokevirtual hexec hown hlink hnamed hmethM hstM hkP hkPi hy (a := b) (cell := cellB) hcell
    (fun z h => by rw [h] at hobj; cases hobj) hselP hmethM habM hkP hkPi (g := g) hg (argsL := argsL) (rest := rest) (hlen _ hsigM) hstack hdg
  rcases hK m meth c ⟨T.setVm vm₁, locs, cells, slots⟩ { g with stack := rest } (.invokevirtual index) mk (Value.ref b :: argsL).toArray X₁ hg hsize hdg hW (X₁.named hnamed) (hpre vm₁ X₁.warmed) with ⟨v, B, X', hpost, hsteps⟩ | ⟨q, B, X', hpost, hsteps⟩
  · exact Or.inl ⟨v, vm₁, B, X₁.warmed, X', hpost, fun target h => hstep₁ _ fun acts => by rw [doInvoke_state]; exact hsteps.trans h⟩
  · exact Or.inr ⟨q, vm₁, B, X₁.warmed, X', hpost, hstep₁ _ fun acts => by rw [doInvoke_state]; exact hsteps⟩
theorem vx_callS (X : Stand p l e R s m args below meth c T locs cells slots) (hexec : p.tables.exec = Jvm.exec) {own : String} {index : Nat} {y : MethodName} {bytes : ByteArray} {maxL : Nat} {ret : Option FieldType}
    (hown : s.vm.findClass own = some m.cls) (hlink : (Cond.methodLink own index y).before args s = true) (hstat : (Cond.static y).before args s = true) (hinit : (Cond.initialized y.cls).before args s = true)
    (hcode : (Cond.code y bytes maxL ret).before args s = true) (hy : y.cls ≠ "java/lang/invoke/MethodHandle" ∧ y.cls ≠ "java/lang/invoke/VarHandle")
    {W9 : Nat} {Pre : Pt → Array Value → Prop} {Post : Pt → Array Value → Option Value → Pt → Prop} {PostX : Pt → Array Value → Addr → Pt → Prop} (hK : vx_Back l R p e below s args y 3 W9 Pre Post PostX)
    {g : JFrame} (hg : g.method = m) (hsize : g.locals.size = c.maxLocals) {argsL rest : List Value} (hlen : ∀ sig, parseMethodDescriptor y.desc = some sig → argsL.length = sig.parameters.length)
    (hstack : g.stack = argsL.reverse ++ rest) (hW : 2 * g.monitorRoom + (rest.map fun v => v.category).sum ≤ W9) (hdg : decode c.code g.pc = .ok (.invokestatic index, 3))
    (hpre : ∀ vm₁, s.WarmedH vm₁ → Pre ⟨T.setVm vm₁, locs, cells, slots⟩ argsL.toArray) :
    (∃ (v : Option Value) (vm₁ : Vm) (B : Pt), s.WarmedH vm₁ ∧ Stand p l e R s m args below meth c B.U B.locs B.cells B.slots ∧ Post ⟨T.setVm vm₁, locs, cells, slots⟩ argsL.toArray v B ∧
      ∀ target, Steps p.tables e below (B.U.setTop { g with pc := g.pc + 3, stack := v.toList ++ rest }) target → Steps p.tables e below (T.setTop g) target) ∨
    (∃ (q : Addr) (vm₁ : Vm) (B : Pt), s.WarmedH vm₁ ∧ Stand p l e R s m args below meth c B.U B.locs B.cells B.slots ∧ PostX ⟨T.setVm vm₁, locs, cells, slots⟩ argsL.toArray q B ∧
      Steps p.tables e below (T.setTop g) ((B.U.setTop { g with stack := rest }).pushFrame (.throwing q))) := by
  obtain ⟨mk, hnamed⟩ := Cond.code_named hcode
  obtain ⟨methM, cM, hmethM, -, -, -, -, -, -, hsigM⟩ := Cond.code_spec hnamed hcode
  have hstatic : methM.isStatic = true := Cond.static_spec hnamed hmethM hstat
  obtain ⟨kP, hkP, -⟩ := className_of_methodNamed hnamed
  have hinitP : kP.init = .initialized := Cond.initialized_spec (findClass_of_methodNamed hnamed) hkP hinit
  obtain ⟨vm₁, X₁, hstep₁⟩ := X.invokestatic hexec hown hlink hnamed hmethM hstatic hkP hinitP hy (g := g) hg (argsL := argsL) (rest := rest) (hlen _ hsigM) hstack hdg
  rcases hK m meth c ⟨T.setVm vm₁, locs, cells, slots⟩ { g with stack := rest } (.invokestatic index) mk argsL.toArray X₁ hg hsize hdg hW (X₁.named hnamed) (hpre vm₁ X₁.warmed) with ⟨v, B, X', hpost, hsteps⟩ | ⟨q, B, X', hpost, hsteps⟩
  · exact Or.inl ⟨v, vm₁, B, X₁.warmed, X', hpost, fun target h => hstep₁ _ fun acts => by rw [doInvoke_state]; exact hsteps.trans h⟩
  · exact Or.inr ⟨q, vm₁, B, X₁.warmed, X', hpost, hstep₁ _ fun acts => by rw [doInvoke_state]; exact hsteps⟩
end Calls
theorem vx_cls {s : State} {T : State} {vm₁ : Vm} {E : String} {k : ClassId} (hW : s.WarmedH vm₁) (h : (T.setVm vm₁).vm.findClass E = some k) : s.vm.findClass E = some k := by
  have h1 : vm₁.findClass E = some k := h
  rw [hW.alike.findClass] at h1
  exact h1
/-- the method's frame g, with q thrown over it -/
def vx_W (p : Program) (l : Launch) (e : Env) (R : Room) (s : State) (m : MethodId) (args : Array Value) (below : List Frame) (meth : Method) (c : Code) (H : Heap) (locs : List Loc) (cells slots : Nat) (Q : State → Prop) (g : JFrame) (q : Addr) : Prop :=
  ∀ T : State, T.heap = H → Stand p l e R s m args below meth c T locs cells slots → ∃ t, Steps p.tables e below ((T.setTop g).pushFrame (.throwing q)) t ∧ Q t
def vx_Run (p : Program) (l : Launch) (e : Env) (R : Room) (s : State) (m : MethodId) (args : Array Value) (below : List Frame) (meth : Method) (c : Code) (H : Heap) (locs : List Loc) (cells slots mc ms : Nat) (g : JFrame) (rest : List Value) (Qa : State → Outcome → State → Prop) (XC : String → State → State → Prop) (free : Addr → Prop) : Prop :=
  ∀ T : State, T.heap = H → Stand p l e R s m args below meth c T locs cells slots →
    (∃ (v : Option Value) (st₀ t T' : State) (L : List Loc), st₀.heap = H ∧ Stand p l e R s m args below meth c T' (locs ++ L) (cells + mc) (slots + ms) ∧ (∀ q ∈ L, free q.base) ∧ T'.heap = t.heap ∧ T'.vm = t.vm ∧ Qa st₀ (.returned v) t ∧
      Goes p e below T g T' { g with pc := g.pc + 3, stack := v.toList ++ rest }) ∨
    (∃ (q : Addr) (st₀ t T' : State) (L : List Loc) (E : String) (ce : Cell), st₀.heap = H ∧ Stand p l e R s m args below meth c T' (locs ++ L) (cells + mc) (slots + ms) ∧ (∀ z ∈ L, free z.base) ∧ T'.heap = t.heap ∧ T'.vm = t.vm ∧ XC E st₀ t ∧ t.heap[q]? = some ce ∧ ce.vm = .none ∧ s.vm.findClass E = some ce.cls ∧
      Steps p.tables e below (T.setTop g) ((T'.setTop { g with stack := rest }).pushFrame (.throwing q)))
def vx_X {S : Type} (px : S → Prop) (B : String → S → State → Prop) (A : Nat → Prop) : String → State → State → Prop := fun E st t => ∃ u : S, px u ∧ B E u t ∧ va_F A st t
section Runs
variable {p : Program} {l : Launch} {e : Env} {R : Room} {s : State} {m : MethodId} {args : Array Value} {below : List Frame} {meth : Method} {c : Code} {H : Heap} {locs : List Loc} {cells slots : Nat}
variable {y : MethodName} {bytes cc : ByteArray} {maxL nL mc ms n index : Nat} {ret : Option FieldType} {ws : List Cond} {rm : Room} {Pc : Array Value → State → Prop} {Qc : Array Value → State → Outcome → State → Prop} {XC : String → State → State → Prop} {free : Addr → Prop} {Ts : List Cond} {own C : String} {b : Addr} {As rest : List Value} {g : JFrame}
theorem vx_callBack (cb : CallB R s args own index y bytes maxL ret ws rm mc ms n) (hM : vx_Met l y ws rm Pc Qc XC mc ms free) (hbl : FrameBlind Pc) : vx_Back l R p e below s args y 3 8 (PreOf R mc ms Pc) (PostOf Qc mc ms free) (vx_Post XC mc ms free) := by
  obtain ⟨hrc, hrs, hfr, hlo, hws, hcw, -, hini, -⟩ := cb
  exact vx_back (bytes := bytes) (maxL := maxL) (ret := ret) hM hbl hrc hrs hfr hlo hws hcw (fun a' U hW => word_at hW (Or.inl (by first | rfl | simp [Cond.onTables, Cond.keeps, Cond.steady])) hini)
theorem vx_runV (S : CallFix p m c cc nL s args Ts own) (hM : vx_Met l y ws rm Pc Qc XC mc ms free) (cw : CallW R s args own C index y bytes maxL ret ws rm mc ms n) (hp : PreV s H C b Pc As)
    (hg : g.method = m) (hn : As.length = n) (hsize : g.locals.size = nL) (hstack : g.stack = As.reverse ++ .ref b :: rest) (hW : 2 * g.monitorRoom + (rest.map fun v => v.category).sum ≤ 8) (hdg : decode cc g.pc = .ok (.invokevirtual index, 3)) (hf : cells + mc ≤ R.cells ∧ slots + ms ≤ R.slots) :
    vx_Run p l e R s m args below meth c H locs cells slots mc ms g rest (Qc (Value.ref b :: As).toArray) XC free := by
  have hK : vx_Back l R p e below s args y 3 8 (PreOf R mc ms Pc) (PostOf Qc mc ms free) (vx_Post XC mc ms free) := vx_callBack cw.1 hM hp.1
  obtain ⟨⟨-, -, -, -, -, -, hcode, -, hy, hlen, hl⟩, hin, hse⟩ := cw
  obtain ⟨hx, hb, hml, ho, -⟩ := S
  obtain ⟨-, ⟨cellB, hcB, hoB, hclB⟩, hPc⟩ := hp
  intro T hT X
  rcases vx_callV X hx (C := C) (bytes := bytes) (maxL := maxL) (ret := ret) ho hl hin hse hcode hy hK (by rw [hT]; exact hcB) hoB hclB hg (hsize.trans hml.symm) (argsL := As) (rest := rest) (fun sig h => hn.trans (hlen sig h)) hstack hW (by rw [hb]; exact hdg)
    (fun vm₁ hW₁ => ⟨hf.1, hf.2, hPc (T.setVm vm₁) hT hW₁⟩) with ⟨v, vm₁, ⟨U', l2, c2, s2⟩, hW₁, X', ⟨g', mk, t, L, e1, e2, hq, h1, hL, h2, h3⟩, st⟩ | ⟨q, vm₁, ⟨U', l2, c2, s2⟩, hW₁, X', ⟨g', mk, t, L, E, ce, e1, e2, hq, hce, hcv, hcl, h1, hL, h2, h3⟩, st⟩
  · dsimp only [Pt.U, Pt.locs, Pt.cells, Pt.slots] at X' e1 e2 h1 h2 h3 st
    subst h1; subst h2; subst h3
    exact Or.inl ⟨v, (T.setVm vm₁).calling g' mk (Value.ref b :: As).toArray, t, U', L, hT, X', hL, e1, e2, hq, st⟩
  · dsimp only [Pt.U, Pt.locs, Pt.cells, Pt.slots] at X' e1 e2 h1 h2 h3 st hcl
    subst h1; subst h2; subst h3
    exact Or.inr ⟨q, (T.setVm vm₁).calling g' mk (Value.ref b :: As).toArray, t, U', L, E, ce, hT, X', hL, e1, e2, hq, hce, hcv, vx_cls hW₁ hcl, st⟩
theorem vx_runS (S : CallFix p m c cc nL s args Ts own) (hM : vx_Met l y ws rm Pc Qc XC mc ms free) (cw : CallB R s args own index y bytes maxL ret ws rm mc ms n ∧ (Cond.static y).before args s = true) (hp : PreS s H Pc As)
    (hg : g.method = m) (hn : As.length = n) (hsize : g.locals.size = nL) (hstack : g.stack = As.reverse ++ rest) (hW : 2 * g.monitorRoom + (rest.map fun v => v.category).sum ≤ 8) (hdg : decode cc g.pc = .ok (.invokestatic index, 3)) (hf : cells + mc ≤ R.cells ∧ slots + ms ≤ R.slots) :
    vx_Run p l e R s m args below meth c H locs cells slots mc ms g rest (Qc As.toArray) XC free := by
  have hK : vx_Back l R p e below s args y 3 8 (PreOf R mc ms Pc) (PostOf Qc mc ms free) (vx_Post XC mc ms free) := vx_callBack cw.1 hM hp.1
  obtain ⟨⟨-, -, -, -, -, -, hcode, hini, hy, hlen, hl⟩, hstt⟩ := cw
  obtain ⟨hx, hb, hml, ho, -⟩ := S
  intro T hT X
  rcases vx_callS X hx (bytes := bytes) (maxL := maxL) (ret := ret) ho hl hstt hini hcode hy hK hg (hsize.trans hml.symm) (argsL := As) (rest := rest) (fun sig h => hn.trans (hlen sig h)) hstack hW (by rw [hb]; exact hdg)
    (fun vm₁ hW₁ => ⟨hf.1, hf.2, hp.2 (T.setVm vm₁) hT hW₁⟩) with ⟨v, vm₁, ⟨U', l2, c2, s2⟩, hW₁, X', ⟨g', mk, t, L, e1, e2, hq, h1, hL, h2, h3⟩, st⟩ | ⟨q, vm₁, ⟨U', l2, c2, s2⟩, hW₁, X', ⟨g', mk, t, L, E, ce, e1, e2, hq, hce, hcv, hcl, h1, hL, h2, h3⟩, st⟩
  · dsimp only [Pt.U, Pt.locs, Pt.cells, Pt.slots] at X' e1 e2 h1 h2 h3 st
    subst h1; subst h2; subst h3
    exact Or.inl ⟨v, (T.setVm vm₁).calling g' mk As.toArray, t, U', L, hT, X', hL, e1, e2, hq, st⟩
  · dsimp only [Pt.U, Pt.locs, Pt.cells, Pt.slots] at X' e1 e2 h1 h2 h3 st hcl
    subst h1; subst h2; subst h3
    exact Or.inr ⟨q, (T.setVm vm₁).calling g' mk As.toArray, t, U', L, E, ce, hT, X', hL, e1, e2, hq, hce, hcv, vx_cls hW₁ hcl, st⟩
end Runs
section Rows
variable {p : Program} {l : Launch} {e : Env} {R : Room} {s : State} {m : MethodId} {args : Array Value} {below : List Frame} {meth : Method} {c : Code} {H : Heap} {locs : List Loc} {cells slots : Nat} {Q : State → Prop}
variable {mc ms : Nat} {free : Addr → Prop} {A0 A1 : Nat → Prop} {H0 : Heap} {a : Array Value} {pc : Nat} {ls : Array Slot} {st0 rest : List Value}
theorem vx_keep {st₀ t T' : State} {L : List Loc} (h0 : st₀.heap = H) (e1 : T'.heap = t.heap) (hS : va_S A0 H0 H locs) (hA : ∀ q, q < H.size → A1 q → A0 q) (hf : ∀ q, free q → A0 q) (hL : ∀ q ∈ L, free q.base) (hF : va_F A1 st₀ t) :
    H.size ≤ T'.heap.size ∧ (∀ q : Nat, q < H.size → ¬ A1 q → T'.heap[q]? = H[q]?) ∧ va_S A0 H0 T'.heap (locs ++ L) := by
  obtain ⟨hz, hk⟩ := hF
  rw [h0] at hz hk
  exact ⟨by rw [e1]; exact hz, fun q h1 h2 => by rw [e1]; exact hk q h1 h2,
    ⟨Nat.le_trans hS.1 (by rw [e1]; exact hz), fun q h1 h2 => by rw [e1, hk q (Nat.lt_of_lt_of_le h1 hS.1) (fun z => h2 (hA q (Nat.lt_of_lt_of_le h1 hS.1) z))]; exact hS.2.1 q h1 h2, fun q hq => by
      rcases List.mem_append.mp hq with h | h
      · exact hS.2.2 q h
      · exact hf _ (hL q h)⟩⟩
theorem vx_calli {S SX : Type} {post : Int32 → S → Prop} {px : SX → Prop} {B : S → State → Prop} {BX : String → SX → State → Prop} {AX : Nat → Prop} (hr : vx_Run p l e R s m args below meth c H locs cells slots mc ms (F0 m pc ls st0) rest (va_Qi post B A1 a) (vx_X px BX AX) free) (hS : va_S A0 H0 H locs) (hA : ∀ q, q < H.size → A1 q → A0 q) (hf : ∀ q, free q → A0 q) (hAX : ∀ q, q < H.size → AX q → A0 q)
    (kx : ∀ (E : String) (ce : Cell) (q9 : Addr) (u : SX) (t : State) (H1 : Heap) (locs1 : List Loc), t.heap = H1 → s.vm.Alike t.vm → px u → BX E u t → H.size ≤ H1.size → (∀ q : Nat, q < H.size → ¬ AX q → H1[q]? = H[q]?) → va_S A0 H0 H1 locs1 → H1[q9]? = some ce → ce.vm = .none → s.vm.findClass E = some ce.cls → vx_W p l e R s m args below meth c H1 locs1 (cells + mc) (slots + ms) Q (F0 m pc ls rest) q9)
    (kk : ∀ (r : Int32) (u : S) (t : State) (H1 : Heap) (locs1 : List Loc), t.heap = H1 → s.vm.Alike t.vm → post r u → B u t → H.size ≤ H1.size → (∀ q : Nat, q < H.size → ¬ A1 q → H1[q]? = H[q]?) → va_S A0 H0 H1 locs1 → W p l e R s m args below meth c H1 locs1 (cells + mc) (slots + ms) Q (F0 m (pc + 3) ls (.int r :: rest))) : W p l e R s m args below meth c H locs cells slots Q (F0 m pc ls st0) := by
  intro T hT X
  rcases hr T hT X with ⟨v, st₀, t, T', L, h0, X', hL, e1, e2, ⟨⟨r, u, hv, hp, hb⟩, hF⟩, st⟩ | ⟨q, st₀, t, T', L, E, ce, h0, X', hL, e1, e2, ⟨u, hp, hb, hF⟩, hce, hcv, hcl, st⟩
  · cases hv
    obtain ⟨k1, k2, k3⟩ := vx_keep h0 e1 hS hA hf hL hF
    obtain ⟨t2, a1, b1⟩ := kk r u t T'.heap (locs ++ L) e1.symm (by rw [← e2]; exact X'.warmed.alike) hp hb k1 k2 k3 T' rfl X'
    exact ⟨t2, st t2 a1, b1⟩
  · obtain ⟨k1, k2, k3⟩ := vx_keep h0 e1 hS hAX hf hL hF
    obtain ⟨t2, a1, b1⟩ := kx E ce q u t T'.heap (locs ++ L) e1.symm (by rw [← e2]; exact X'.warmed.alike) hp hb k1 k2 k3 (by rw [e1]; exact hce) hcv hcl T' rfl X'
    exact ⟨t2, st.trans a1, b1⟩
theorem vx_calll {S SX : Type} {post : Int64 → S → Prop} {px : SX → Prop} {B : S → State → Prop} {BX : String → SX → State → Prop} {AX : Nat → Prop} (hr : vx_Run p l e R s m args below meth c H locs cells slots mc ms (F0 m pc ls st0) rest (va_Ql post B A1 a) (vx_X px BX AX) free) (hS : va_S A0 H0 H locs) (hA : ∀ q, q < H.size → A1 q → A0 q) (hf : ∀ q, free q → A0 q) (hAX : ∀ q, q < H.size → AX q → A0 q)
    (kx : ∀ (E : String) (ce : Cell) (q9 : Addr) (u : SX) (t : State) (H1 : Heap) (locs1 : List Loc), t.heap = H1 → s.vm.Alike t.vm → px u → BX E u t → H.size ≤ H1.size → (∀ q : Nat, q < H.size → ¬ AX q → H1[q]? = H[q]?) → va_S A0 H0 H1 locs1 → H1[q9]? = some ce → ce.vm = .none → s.vm.findClass E = some ce.cls → vx_W p l e R s m args below meth c H1 locs1 (cells + mc) (slots + ms) Q (F0 m pc ls rest) q9)
    (kk : ∀ (r : Int64) (u : S) (t : State) (H1 : Heap) (locs1 : List Loc), t.heap = H1 → s.vm.Alike t.vm → post r u → B u t → H.size ≤ H1.size → (∀ q : Nat, q < H.size → ¬ A1 q → H1[q]? = H[q]?) → va_S A0 H0 H1 locs1 → W p l e R s m args below meth c H1 locs1 (cells + mc) (slots + ms) Q (F0 m (pc + 3) ls (.long r :: rest))) : W p l e R s m args below meth c H locs cells slots Q (F0 m pc ls st0) := by
  intro T hT X
  rcases hr T hT X with ⟨v, st₀, t, T', L, h0, X', hL, e1, e2, ⟨⟨r, u, hv, hp, hb⟩, hF⟩, st⟩ | ⟨q, st₀, t, T', L, E, ce, h0, X', hL, e1, e2, ⟨u, hp, hb, hF⟩, hce, hcv, hcl, st⟩
  · cases hv
    obtain ⟨k1, k2, k3⟩ := vx_keep h0 e1 hS hA hf hL hF
    obtain ⟨t2, a1, b1⟩ := kk r u t T'.heap (locs ++ L) e1.symm (by rw [← e2]; exact X'.warmed.alike) hp hb k1 k2 k3 T' rfl X'
    exact ⟨t2, st t2 a1, b1⟩
  · obtain ⟨k1, k2, k3⟩ := vx_keep h0 e1 hS hAX hf hL hF
    obtain ⟨t2, a1, b1⟩ := kx E ce q u t T'.heap (locs ++ L) e1.symm (by rw [← e2]; exact X'.warmed.alike) hp hb k1 k2 k3 (by rw [e1]; exact hce) hcv hcl T' rfl X'
    exact ⟨t2, st.trans a1, b1⟩
theorem vx_callf {S SX : Type} {post : UInt32 → S → Prop} {px : SX → Prop} {B : S → State → Prop} {BX : String → SX → State → Prop} {AX : Nat → Prop} (hr : vx_Run p l e R s m args below meth c H locs cells slots mc ms (F0 m pc ls st0) rest (va_Qf post B A1 a) (vx_X px BX AX) free) (hS : va_S A0 H0 H locs) (hA : ∀ q, q < H.size → A1 q → A0 q) (hf : ∀ q, free q → A0 q) (hAX : ∀ q, q < H.size → AX q → A0 q)
    (kx : ∀ (E : String) (ce : Cell) (q9 : Addr) (u : SX) (t : State) (H1 : Heap) (locs1 : List Loc), t.heap = H1 → s.vm.Alike t.vm → px u → BX E u t → H.size ≤ H1.size → (∀ q : Nat, q < H.size → ¬ AX q → H1[q]? = H[q]?) → va_S A0 H0 H1 locs1 → H1[q9]? = some ce → ce.vm = .none → s.vm.findClass E = some ce.cls → vx_W p l e R s m args below meth c H1 locs1 (cells + mc) (slots + ms) Q (F0 m pc ls rest) q9)
    (kk : ∀ (r : UInt32) (u : S) (t : State) (H1 : Heap) (locs1 : List Loc), t.heap = H1 → s.vm.Alike t.vm → post r u → B u t → H.size ≤ H1.size → (∀ q : Nat, q < H.size → ¬ A1 q → H1[q]? = H[q]?) → va_S A0 H0 H1 locs1 → W p l e R s m args below meth c H1 locs1 (cells + mc) (slots + ms) Q (F0 m (pc + 3) ls (.float r :: rest))) : W p l e R s m args below meth c H locs cells slots Q (F0 m pc ls st0) := by
  intro T hT X
  rcases hr T hT X with ⟨v, st₀, t, T', L, h0, X', hL, e1, e2, ⟨⟨r, u, hv, hp, hb⟩, hF⟩, st⟩ | ⟨q, st₀, t, T', L, E, ce, h0, X', hL, e1, e2, ⟨u, hp, hb, hF⟩, hce, hcv, hcl, st⟩
  · cases hv
    obtain ⟨k1, k2, k3⟩ := vx_keep h0 e1 hS hA hf hL hF
    obtain ⟨t2, a1, b1⟩ := kk r u t T'.heap (locs ++ L) e1.symm (by rw [← e2]; exact X'.warmed.alike) hp hb k1 k2 k3 T' rfl X'
    exact ⟨t2, st t2 a1, b1⟩
  · obtain ⟨k1, k2, k3⟩ := vx_keep h0 e1 hS hAX hf hL hF
    obtain ⟨t2, a1, b1⟩ := kx E ce q u t T'.heap (locs ++ L) e1.symm (by rw [← e2]; exact X'.warmed.alike) hp hb k1 k2 k3 (by rw [e1]; exact hce) hcv hcl T' rfl X'
    exact ⟨t2, st.trans a1, b1⟩
theorem vx_calld {S SX : Type} {post : UInt64 → S → Prop} {px : SX → Prop} {B : S → State → Prop} {BX : String → SX → State → Prop} {AX : Nat → Prop} (hr : vx_Run p l e R s m args below meth c H locs cells slots mc ms (F0 m pc ls st0) rest (va_Qd post B A1 a) (vx_X px BX AX) free) (hS : va_S A0 H0 H locs) (hA : ∀ q, q < H.size → A1 q → A0 q) (hf : ∀ q, free q → A0 q) (hAX : ∀ q, q < H.size → AX q → A0 q)
    (kx : ∀ (E : String) (ce : Cell) (q9 : Addr) (u : SX) (t : State) (H1 : Heap) (locs1 : List Loc), t.heap = H1 → s.vm.Alike t.vm → px u → BX E u t → H.size ≤ H1.size → (∀ q : Nat, q < H.size → ¬ AX q → H1[q]? = H[q]?) → va_S A0 H0 H1 locs1 → H1[q9]? = some ce → ce.vm = .none → s.vm.findClass E = some ce.cls → vx_W p l e R s m args below meth c H1 locs1 (cells + mc) (slots + ms) Q (F0 m pc ls rest) q9)
    (kk : ∀ (r : UInt64) (u : S) (t : State) (H1 : Heap) (locs1 : List Loc), t.heap = H1 → s.vm.Alike t.vm → post r u → B u t → H.size ≤ H1.size → (∀ q : Nat, q < H.size → ¬ A1 q → H1[q]? = H[q]?) → va_S A0 H0 H1 locs1 → W p l e R s m args below meth c H1 locs1 (cells + mc) (slots + ms) Q (F0 m (pc + 3) ls (.double r :: rest))) : W p l e R s m args below meth c H locs cells slots Q (F0 m pc ls st0) := by
  intro T hT X
  rcases hr T hT X with ⟨v, st₀, t, T', L, h0, X', hL, e1, e2, ⟨⟨r, u, hv, hp, hb⟩, hF⟩, st⟩ | ⟨q, st₀, t, T', L, E, ce, h0, X', hL, e1, e2, ⟨u, hp, hb, hF⟩, hce, hcv, hcl, st⟩
  · cases hv
    obtain ⟨k1, k2, k3⟩ := vx_keep h0 e1 hS hA hf hL hF
    obtain ⟨t2, a1, b1⟩ := kk r u t T'.heap (locs ++ L) e1.symm (by rw [← e2]; exact X'.warmed.alike) hp hb k1 k2 k3 T' rfl X'
    exact ⟨t2, st t2 a1, b1⟩
  · obtain ⟨k1, k2, k3⟩ := vx_keep h0 e1 hS hAX hf hL hF
    obtain ⟨t2, a1, b1⟩ := kx E ce q u t T'.heap (locs ++ L) e1.symm (by rw [← e2]; exact X'.warmed.alike) hp hb k1 k2 k3 (by rw [e1]; exact hce) hcv hcl T' rfl X'
    exact ⟨t2, st.trans a1, b1⟩
theorem vx_callv {S SX : Type} {post : S → Prop} {px : SX → Prop} {B : S → State → Prop} {BX : String → SX → State → Prop} {AX : Nat → Prop} (hr : vx_Run p l e R s m args below meth c H locs cells slots mc ms (F0 m pc ls st0) rest (va_Qv post B A1 a) (vx_X px BX AX) free) (hS : va_S A0 H0 H locs) (hA : ∀ q, q < H.size → A1 q → A0 q) (hf : ∀ q, free q → A0 q) (hAX : ∀ q, q < H.size → AX q → A0 q)
    (kx : ∀ (E : String) (ce : Cell) (q9 : Addr) (u : SX) (t : State) (H1 : Heap) (locs1 : List Loc), t.heap = H1 → s.vm.Alike t.vm → px u → BX E u t → H.size ≤ H1.size → (∀ q : Nat, q < H.size → ¬ AX q → H1[q]? = H[q]?) → va_S A0 H0 H1 locs1 → H1[q9]? = some ce → ce.vm = .none → s.vm.findClass E = some ce.cls → vx_W p l e R s m args below meth c H1 locs1 (cells + mc) (slots + ms) Q (F0 m pc ls rest) q9)
    (kk : ∀ (u : S) (t : State) (H1 : Heap) (locs1 : List Loc), t.heap = H1 → s.vm.Alike t.vm → post u → B u t → H.size ≤ H1.size → (∀ q : Nat, q < H.size → ¬ A1 q → H1[q]? = H[q]?) → va_S A0 H0 H1 locs1 → W p l e R s m args below meth c H1 locs1 (cells + mc) (slots + ms) Q (F0 m (pc + 3) ls (rest))) : W p l e R s m args below meth c H locs cells slots Q (F0 m pc ls st0) := by
  intro T hT X
  rcases hr T hT X with ⟨v, st₀, t, T', L, h0, X', hL, e1, e2, ⟨⟨u, hv, hp, hb⟩, hF⟩, st⟩ | ⟨q, st₀, t, T', L, E, ce, h0, X', hL, e1, e2, ⟨u, hp, hb, hF⟩, hce, hcv, hcl, st⟩
  · cases hv
    obtain ⟨k1, k2, k3⟩ := vx_keep h0 e1 hS hA hf hL hF
    obtain ⟨t2, a1, b1⟩ := kk u t T'.heap (locs ++ L) e1.symm (by rw [← e2]; exact X'.warmed.alike) hp hb k1 k2 k3 T' rfl X'
    exact ⟨t2, st t2 a1, b1⟩
  · obtain ⟨k1, k2, k3⟩ := vx_keep h0 e1 hS hAX hf hL hF
    obtain ⟨t2, a1, b1⟩ := kx E ce q u t T'.heap (locs ++ L) e1.symm (by rw [← e2]; exact X'.warmed.alike) hp hb k1 k2 k3 (by rw [e1]; exact hce) hcv hcl T' rfl X'
    exact ⟨t2, st.trans a1, b1⟩
/-- caught by the row x of this method's table; the rows ahead don't take it -/
theorem vx_catch {own name : String} {E : String} {ce : Cell} {q : Addr} (hown : s.vm.findClass own = some m.cls) (pre : List ExceptionTableEntry) (x : ExceptionTableEntry) (suf : List ExceptionTableEntry) (hsplit : c.exceptionTable.toList = pre ++ x :: suf)
    (hpass : ∀ z ∈ pre, covers z pc = false ∨ (z.catchType ≠ 0 ∧ ∃ nm : String, (Cond.classLink own z.catchType nm).before args s = true ∧ va_Nc E nm s)) (hx : covers x pc = true) (h0 : x.catchType ≠ 0)
    (hlink : (Cond.classLink own x.catchType name).before args s = true) (hcast : (Cond.castable E name).before args s = true) (hcell : H[q]? = some ce) (hv : ce.vm = .none) (hcl : s.vm.findClass E = some ce.cls)
    (kk : W p l e R s m args below meth c H locs cells slots Q (F0 m x.handlerPc ls [.ref q])) : vx_W p l e R s m args below meth c H locs cells slots Q (F0 m pc ls rest) q := by
  intro T hT X
  have hpl : e.platform.magicAccessors = ({} : Platform).magicAccessors := by rw [X.admits.platform]
  obtain ⟨c3, c4, hc3, hc4, hasg⟩ := Cond.castable_spec hcast
  cases Option.some.inj (hc3.symm.trans hcl)
  obtain ⟨c5, hc5, hcl5⟩ := Cond.classLink_spec hown hlink e.platform hpl
  cases Option.some.inj (hc4.symm.trans hc5)
  obtain ⟨vm', X', st⟩ := X.thenCaughtThrough q (g := F0 m pc ls rest) rfl (Steps.refl _) (by rw [hT]; exact hcell) (by rw [hv]; rfl) (by obtain ⟨k9, h9, -⟩ := Vm.findClass_spec hcl; exact ⟨k9, h9⟩) pre x suf hsplit
    (fun z hz => by
      rcases hpass z hz with h | ⟨hz0, nm, hl1, hn1⟩
      · exact Or.inl h
      · obtain ⟨c6, hc6, hcl6⟩ := Cond.classLink_spec hown hl1 e.platform hpl
        obtain ⟨a8, b8, h1, h2, h3⟩ := hn1
        cases Option.some.inj (h1.symm.trans hcl)
        cases Option.some.inj (h2.symm.trans hc6)
        exact Or.inr ⟨hz0, _, hcl6, h3⟩) hx (Or.inr ⟨h0, c4, hcl5, hasg⟩)
  obtain ⟨t, a1, b1⟩ := kk (T.setVm vm') hT X'
  exact ⟨t, st.trans a1, b1⟩
end Rows
section Ends
variable {p : Program} {l : Launch} {e : Env} {R : Room} {s : State} {m : MethodId} {args : Array Value} {below : List Frame} {meth : Method} {c : Code} {H : Heap} {locs : List Loc} {cells slots : Nat} {Q : State → Prop}
variable {mc ms : Nat} {free : Addr → Prop} {A0 A1 : Nat → Prop} {H0 : Heap} {a : Array Value} {ls : Array Slot} {st0 rest : List Value}
variable {Qc : Array Value → State → Outcome → State → Prop} {XC : String → State → State → Prop}
/-- what a body that may throw owes at its end -/
def vx_MQ (below : List Frame) (Qc : Array Value → State → Outcome → State → Prop) (XC : String → State → State → Prop) (a : Array Value) (s : State) (mc ms : Nat) (free : Addr → Prop) : State → Prop := fun t =>
  ∃ o, t.status = .running ∧ Ended t below o ∧ vx_Q Qc XC mc ms free a s o t
theorem vx_ret {g : JFrame} {mc ms : Nat} (k : W p l e R s m args below meth c H locs cells slots (MQ below Qc args s mc ms free) g) : W p l e R s m args below meth c H locs cells slots (vx_MQ below Qc XC args s mc ms free) g := by
  intro T hT X
  obtain ⟨t, a1, o, b1, b2, b3, b4⟩ := k T hT X
  exact ⟨t, a1, o, b1, b2, Or.inl ⟨b3, b4⟩⟩
/-- not caught here: it goes on to the caller -/
theorem vx_widen {g : JFrame} {q : Addr} {k n : Nat} (h1 : cells ≤ k) (h2 : slots ≤ n) (kk : vx_W p l e R s m args below meth c H locs k n Q g q) : vx_W p l e R s m args below meth c H locs cells slots Q g q := fun T hT X => kk T hT (stand_widen X h1 h2)
theorem vx_out {pc : Nat} {E : String} {ce : Cell} {q : Addr} {mc ms : Nat} (hout : ∀ x ∈ c.exceptionTable.toList, covers x pc = false) (hlocks : meth.locks = false) (hcell : H[q]? = some ce) (hv : ce.vm = .none) (hcl : s.vm.findClass E = some ce.cls)
    (hx : ∀ t : State, t.heap = H → s.vm.Alike t.vm → XC E s t) (hf : ∀ z ∈ locs, free z.base) (hc : cells ≤ mc) (hs : slots ≤ ms) :
    vx_W p l e R s m args below meth c H locs cells slots (vx_MQ below Qc XC args s mc ms free) (F0 m pc ls rest) q := by
  intro T hT X
  obtain ⟨st1, hrun, hend, hW, hsm⟩ := X.leaveThrown q (g := F0 m pc ls rest) rfl rfl rfl hout hlocks
  have hcell9 : (T.setFrames (.throwing q :: below)).heap[q]? = some ce := by
    show T.heap[q]? = some ce
    rw [hT]; exact hcell
  exact ⟨_, st1, .threw q, hrun, hend, Or.inr ⟨q, rfl, E, ce, locs, hx _ hT hW.alike, hcell9, hv, hcl, hW, hsm.mono hc hs, hf⟩⟩
theorem vx_frame {U : State} {k n : Nat} (h : s.sameButNew ({ U with vm := s.vm } : State) locs k n) : s.heap.size ≤ U.heap.size ∧ ∀ q : Nat, q < s.heap.size → (∀ z ∈ locs, z.base ≠ q) → U.heap[q]? = s.heap[q]? := by
  obtain ⟨-, h2, -, -, -, h6⟩ := h
  refine ⟨h2, fun q hq hz => ?_⟩
  obtain ⟨c9, e1, e2, e3, e4⟩ := h6 q _ (Array.getElem?_eq_getElem hq)
  have hs : c9.slots = (s.heap[q]).slots := Array.ext_getElem? fun i => e4 i fun hm => hz _ hm rfl
  have h9 : c9 = s.heap[q] := by
    rw [hs] at e2
    exact e2
  have e5 : U.heap[q]? = some c9 := e1
  rw [e5, h9, Array.getElem?_eq_getElem hq]
/-- the words of a throw but the four that speak of the heap -/
def vx_no (w : Cond) : Bool := decide (w ≠ .isRef (.static Bundle.tN "UNASSIGNED_STACK" Bundle.steD)) && decide (w ≠ .isRef (.static Bundle.tN "SUPPRESSED_SENTINEL" Bundle.listD)) && decide (w ≠ .laysStatic Bundle.tN "UNASSIGNED_STACK" Bundle.steD) && decide (w ≠ .laysStatic Bundle.tN "SUPPRESSED_SENTINEL" Bundle.listD)
def vx_at0 (own : String) (ic : Nat) (X : String) (names : List String) : List Cond := (Bundle.ownAtoms0 own ic X names).filter vx_no
def vx_atS (own : String) (ic : Nat) (X : String) (names : List String) : List Cond := (Bundle.ownAtoms own ic X names).filter vx_no
/-- a word that the tables alone decide, or a good one -/
def vx_ot (w : Cond) : Bool := w.onTables || goodWord w
theorem vx_ot_at {args a' : Array Value} {s U : State} {w : Cond} (hW : s.WarmedH U.vm) (hvm : s.vm = U.vm) (hg : vx_ot w = true) (h : w.before args s = true) : w.before a' U = true := by
  simp only [vx_ot, Bool.or_eq_true] at hg
  rcases hg with hg | hg
  · exact va_tabs hg hvm h
  · exact word_at hW (good_of_word hg) h
/-- a list's words: the good ones out of the method's own list, the others by premises of their own -/
theorem vx_hat {args : Array Value} {s : State} {L B : List Cond} (h1 : ∀ w ∈ L.filter goodWord, w.before args s = true) (h2 : ∀ w ∈ L.filter (fun w => !goodWord w), w ∈ B) (h3 : ∀ w ∈ B, w.before args s = true) : ∀ w ∈ L, w.before args s = true := by
  intro w hw
  by_cases g : goodWord w = true
  · exact h1 w (List.mem_filter.mpr ⟨hw, g⟩)
  · refine h3 w (h2 w (List.mem_filter.mpr ⟨hw, ?_⟩))
    show (!goodWord w) = true
    cases hgw : goodWord w
    · rfl
    · exact absurd hgw g
theorem vx_c {args : Array Value} {s : State} {w : Cond} {B : List Cond} (h : w.before args s = true) (t : ∀ w ∈ B, w.before args s = true) : ∀ w' ∈ w :: B, w'.before args s = true := fun w' h' => (List.mem_cons.mp h').elim (fun e => by rw [e]; exact h) (t w')
theorem vx_n {args : Array Value} {s : State} : ∀ w ∈ ([] : List Cond), w.before args s = true := fun _ h => nomatch h
theorem vx_own {args : Array Value} {s : State} {L : List Cond} (h1 : ∀ w ∈ L.filter vx_no, w.before args s = true)
    (hU : (Cond.isRef (.static Bundle.tN "UNASSIGNED_STACK" Bundle.steD)).before args s = true) (hN : (Cond.isRef (.static Bundle.tN "SUPPRESSED_SENTINEL" Bundle.listD)).before args s = true)
    (lU : (Cond.laysStatic Bundle.tN "UNASSIGNED_STACK" Bundle.steD).before args s = true) (lN : (Cond.laysStatic Bundle.tN "SUPPRESSED_SENTINEL" Bundle.listD).before args s = true) : ∀ w ∈ L, w.before args s = true := by
  intro w hw
  by_cases e1 : w = .isRef (.static Bundle.tN "UNASSIGNED_STACK" Bundle.steD)
  · rw [e1]; exact hU
  · by_cases e2 : w = .isRef (.static Bundle.tN "SUPPRESSED_SENTINEL" Bundle.listD)
    · rw [e2]; exact hN
    · by_cases e3 : w = .laysStatic Bundle.tN "UNASSIGNED_STACK" Bundle.steD
      · rw [e3]; exact lU
      · by_cases e4 : w = .laysStatic Bundle.tN "SUPPRESSED_SENTINEL" Bundle.listD
        · rw [e4]; exact lN
        · exact h1 w (List.mem_filter.mpr ⟨hw, by unfold vx_no; rw [decide_eq_true e1, decide_eq_true e2, decide_eq_true e3, decide_eq_true e4]; rfl⟩)
/-- where a static field lies, its class's statics cell in H -/
def vx_L (C n d : String) (A : Nat → Prop) (U : State) (H : Heap) : Prop := ∃ (c : ClassId) (k : Class) (i : Nat) (f : Field) (a : Nat) (cell : Cell), U.vm.findClass C = some c ∧ U.fieldFound? C n d = some (c, k, i, f) ∧ f.isStatic = true ∧ k.statics = some a ∧ H[a]? = some cell ∧ cell.vm.isStatics = true ∧ cell.cls = c ∧ f.slot < cell.slots.size ∧ k.staticTypes[f.slot]? = some f.type ∧ ¬ A a
theorem vx_L.moved {C n d : String} {A : Nat → Prop} {u U : State} {H : Heap} (hvm : u.vm.Alike U.vm) (h : vx_L C n d A u H) : vx_L C n d A U H := by
  obtain ⟨c, k, i, f, a, cell, h1, h2, h3, h4, h5, h6, h7, h8, h9, h10⟩ := h
  obtain ⟨k', hi', he⟩ := State.fieldFound?_setVm hvm h2
  exact ⟨c, k', i, f, a, cell, by rw [hvm.findClass]; exact h1, hi', h3, by rw [he]; exact h4, h5, h6, h7, h8, by rw [he]; exact h9, h10⟩
theorem vx_L.kept {C n d : String} {A : Nat → Prop} {U : State} {H H1 : Heap} (h : vx_L C n d A U H) (hq : ∀ a : Nat, a < H.size → ¬ A a → H1[a]? = H[a]?) : vx_L C n d A U H1 := by
  obtain ⟨c, k, i, f, a, cell, h1, h2, h3, h4, h5, h6, h7, h8, h9, h10⟩ := h
  exact ⟨c, k, i, f, a, cell, h1, h2, h3, h4, by rw [hq a (Array.getElem?_eq_some_iff.mp h5).1 h10]; exact h5, h6, h7, h8, h9, h10⟩
theorem vx_L.narrow {C n d : String} {A B : Nat → Prop} {U : State} {H : Heap} (h : vx_L C n d A U H) (hAB : ∀ q, B q → A q) : vx_L C n d B U H := by
  obtain ⟨c, k, i, f, a, cell, h1, h2, h3, h4, h5, h6, h7, h8, h9, h10⟩ := h
  exact ⟨c, k, i, f, a, cell, h1, h2, h3, h4, h5, h6, h7, h8, h9, fun z => h10 (hAB _ z)⟩
theorem vx_L.word {C n d : String} {A : Nat → Prop} {s : State} {args : Array Value} (h : vx_L C n d A s s.heap) : (Cond.laysStatic C n d).before args s = true := by
  obtain ⟨c, k, i, f, a, cell, h1, h2, h3, h4, h5, h6, h7, h8, h9, -⟩ := h
  show (Cond.laysStatic C n d).holds args s none s [] = true
  exact Cond.laysStatic_of h1 h2 h3 h4 h5 h6 h7 h8 h9
/-- .. and what it holds: null or some reference -/
def vx_Zq (C n d : String) (A : Nat → Prop) (U : State) (H : Heap) : Prop := va_Zq C n d A U H ∧ vx_L C n d A U H
theorem vx_Zq.moved {C n d : String} {A : Nat → Prop} {u U : State} {H : Heap} (hvm : u.vm.Alike U.vm) (h : vx_Zq C n d A u H) : vx_Zq C n d A U H := ⟨va_Zq.moved hvm h.1, vx_L.moved hvm h.2⟩
theorem vx_Zq.kept {C n d : String} {A : Nat → Prop} {U : State} {H H1 : Heap} (h : vx_Zq C n d A U H) (hq : ∀ a : Nat, a < H.size → ¬ A a → H1[a]? = H[a]?) : vx_Zq C n d A U H1 := ⟨va_Zq.kept h.1 hq, vx_L.kept h.2 hq⟩
theorem vx_Zq.narrow {C n d : String} {A B : Nat → Prop} {U : State} {H : Heap} (h : vx_Zq C n d A U H) (hAB : ∀ q, B q → A q) : vx_Zq C n d B U H := ⟨va_Zq.narrow h.1 hAB, vx_L.narrow h.2 hAB⟩
theorem vx_Zqof {args : Array Value} {s : State} {C n d : String} {A : Nat → Prop} (hl : (Cond.laysStatic C n d).before args s = true) (hini : (Cond.initialized C).before args s = true) (h : (Cond.isRef (.static C n d)).before args s = true) (hA : ∀ a : Nat, a < s.heap.size → ¬ A a) : vx_Zq C n d A s s.heap := by
  refine ⟨va_Zqof hl hini h hA, ?_⟩
  obtain ⟨c, k, i, f, a, cell, h1, h2, h3, h4, h5, h6, h7, h8, h9⟩ := Cond.laysStatic_spec hl
  exact ⟨c, k, i, f, a, cell, h1, h2, h3, h4, h5, h6, h7, h8, h9, hA a (Array.getElem?_eq_some_iff.mp h5).1⟩
theorem vx_isRef {C n d : String} {v : Value} {A : Nat → Prop} {s : State} {args : Array Value} (h : va_Z C n d v A s s.heap) (hv : v.isRef = true) : (Cond.isRef (.static C n d)).before args s = true := by
  obtain ⟨cf, kf, fi, f, a, cell, h1, h2, h3, h4, h5, h6, h7, -⟩ := h
  have he : (Term.static C n d).eval args s none [] s = some v := by
    simp [Term.eval, State.fieldNamed?, h1, h2, h4, h5, h6, h7]
  simp only [Cond.before, Cond.holds, Cond.value, he]
  cases v <;> simp_all [Value.isRef]
theorem vx_isRefq {C n d : String} {A : Nat → Prop} {s : State} {args : Array Value} (h : va_Zq C n d A s s.heap) : (Cond.isRef (.static C n d)).before args s = true := by
  rcases h with h | ⟨t, h⟩
  · exact vx_isRef h rfl
  · exact vx_isRef h rfl
/-- the same frame, seen from here: as if the method were called anew in this heap -/
theorem vx_rebase {T : State} (X : Stand p l e R s m args below meth c T locs cells slots) {R' : Room} (hf : R'.frames ≤ R.frames) (hl : R'.locals ≤ R.locals) (hc : cells + R'.cells ≤ R.cells) (hs : slots + R'.slots ≤ R.slots) :
    Stand p l e R' ((T.setVm s.vm).setFrames (.invoking m args :: below)) m args below meth c T [] 0 0 := by
  have htop : (T.setVm s.vm).topJava?.isSome := X.here.top
  have hF : ((T.setVm s.vm).setFrames (.invoking m args :: below)).frames = .invoking m args :: below := State.frames_setFrames _ (State.cur_lt_of_top htop)
  obtain ⟨g₀, hg0⟩ := Option.isSome_iff_exists.mp htop
  obtain ⟨r, hr⟩ := State.topJava?_eq_some.mp hg0
  have hl9 : e.platform.stackLimits (T.setVm s.vm).me = e.platform.stackLimits s.me := X.limits
  have hb9 : (T.setVm s.vm).me.stackBytes = s.me.stackBytes := X.bytes
  refine ⟨X.admits, X.cas, X.clock, hF, ?_, X.hears, X.method, X.code, X.here, X.tail, X.warmed, ?_, ?_, ?_⟩
  · have h := X.room
    have hU : ((T.setVm s.vm).setFrames (.invoking m args :: below)).localsInUse = s.localsInUse := by
      rw [State.localsInUse_invoking hF (meth := meth) (c := c) X.method X.code, State.localsInUse_invoking X.frames X.method X.code]
    simp only [State.hasRoom, Bool.and_eq_true, decide_eq_true_eq] at h ⊢
    obtain ⟨⟨⟨⟨h1, h2, h3, h4, h5, h6⟩, h7⟩, h8⟩, h9⟩ := h
    rw [X.frames, List.length_cons] at h2 h3
    have q1 := X.heapSize
    have q2 := X.used
    simp only [hF, hU, List.length_cons, State.stackLimits_setFrames, State.stackBytes_setFrames, hl9, hb9]
    refine ⟨⟨⟨⟨by omega, by omega, by omega, by omega, by omega, h6⟩, ?_⟩, ?_⟩, X.book⟩
    · show T.heap.size + R'.cells ≤ e.platform.maxCells
      omega
    · show T.slotsUsed + R'.slots ≤ e.platform.maxSlots
      omega
  · rw [State.stackLimits_setFrames]; rfl
  · rw [State.stackBytes_setFrames]; rfl
  · refine ⟨?_, Nat.le_refl _, Nat.le_refl _, ?_, ?_, fun a c9 h9 => ⟨c9, h9, rfl, rfl, fun _ _ => rfl⟩⟩
    · obtain ⟨t, ht, -⟩ := State.frames_cons hr
      show T.setVm s.vm = { ((T.setVm s.vm).setFrames (.invoking m args :: below)).setFrames (T.setVm s.vm).frames with heap := T.heap, slotsUsed := T.slotsUsed }
      rw [State.setFrames_setFrames, State.setFrames_self ht]
      rfl
    · show T.slotsUsed = T.slotsUsed + ((T.heap.toList.drop T.heap.size).map (·.slots.size)).sum
      rw [List.drop_eq_nil_of_le (Nat.le_of_eq Array.length_toList)]
      rfl
    · show ((T.heap.toList.drop T.heap.size).map (·.slots.size)).sum ≤ 0
      rw [List.drop_eq_nil_of_le (Nat.le_of_eq Array.length_toList)]
      exact Nat.le_refl _
/-- 'throw new E()': new; dup; invokespecial; athrow -/
theorem vx_throw0 {cc : ByteArray} {pc : Nat} (hexec : p.tables.exec = Jvm.exec) (hb : c.code = cc) (hl : l.stackTraces = false) {own cls : String} {names : List String} {ik ic mc ms : Nat} {A : Nat → Prop}
    (hown : s.vm.findClass own = some m.cls) (hcls : Bundle.fit cls = true) (hnames : ∀ n ∈ names, Bundle.fit n = true)
    (hk : (Cond.classLink own ik cls).before args s = true) (hini : (Cond.initialized cls).before args s = true) (hat : ∀ w ∈ vx_at0 own ic cls names, w.before args s = true)
    (hgood : ∀ w ∈ Cond.classLink own ik cls :: Cond.initialized cls :: vx_at0 own ic cls names, vx_ot w = true)
    (hU : vx_Zq Bundle.tN "UNASSIGNED_STACK" Bundle.steD A s s.heap) (hN : vx_Zq Bundle.tN "SUPPRESSED_SENTINEL" Bundle.listD A s s.heap) (hS : va_S A s.heap H locs) (hsize : ls.size = c.maxLocals)
    (d0 : decode cc pc = .ok (.new ik, 3)) (d3 : decode cc (pc + 3) = .ok (.dup, 1)) (d4 : decode cc (pc + 4) = .ok (.invokespecial ic, 3)) (d7 : decode cc (pc + 7) = .ok (.athrow, 1))
    (hout : ∀ x ∈ c.exceptionTable.toList, covers x (pc + 7) = false)
    (hRframes : names.length + 3 < R.frames) (hRlocals : (rest.map fun v => v.category).sum + (13 * (names.length + 1) + 42) ≤ R.locals) (hRcells : cells + 1 ≤ R.cells) (hRslots : slots + 6 ≤ R.slots) (hlocks : meth.locks = false)
    (hx : ∀ t : State, s.vm.Alike t.vm → H.size ≤ t.heap.size → (∀ q : Nat, q < H.size → t.heap[q]? = H[q]?) → XC cls s t)
    (hf : ∀ z ∈ locs, free z.base) (hc : cells + 1 ≤ mc) (hs : slots + 6 ≤ ms) :
    W p l e R s m args below meth c H locs cells slots (vx_MQ below Qc XC args s mc ms free) (F0 m pc ls rest) := by
  intro T hT X
  have htr : e.platform.stackTraces = false := (show e.platform.stackTraces = l.stackTraces by rw [X.admits.platform]).trans hl
  have Y := vx_rebase X (R' := { frames := R.frames, locals := R.locals, cells := 1, slots := 6 }) (Nat.le_refl _) (Nat.le_refl _) hRcells hRslots
  obtain ⟨s', hA⟩ : ∃ z, z = (T.setVm s.vm).setFrames (.invoking m args :: below) := ⟨_, rfl⟩
  rw [← hA] at Y
  have hvm : s'.vm = s.vm := by rw [hA]; rfl
  have hhp : s'.heap = H := by rw [hA]; exact hT
  have hW0 : s.WarmedH s'.vm := by rw [hvm]; exact State.WarmedH.refl s
  have hat' : ∀ w ∈ vx_at0 own ic cls names, w.before args s' = true := fun w hw => vx_ot_at hW0 hvm.symm (hgood w (List.mem_cons_of_mem _ (List.mem_cons_of_mem _ hw))) (hat w hw)
  have hk' : (Cond.classLink own ik cls).before args s' = true := vx_ot_at hW0 hvm.symm (hgood _ List.mem_cons_self) hk
  have hini' : (Cond.initialized cls).before args s' = true := vx_ot_at hW0 hvm.symm (hgood _ (List.mem_cons_of_mem _ List.mem_cons_self)) hini
  have hU' : vx_Zq Bundle.tN "UNASSIGNED_STACK" Bundle.steD A s' s'.heap := by rw [hhp]; exact vx_Zq.moved hW0.alike (hU.kept hS.2.1)
  have hN' : vx_Zq Bundle.tN "SUPPRESSED_SENTINEL" Bundle.listD A s' s'.heap := by rw [hhp]; exact vx_Zq.moved hW0.alike (hN.kept hS.2.1)
  have h : ∀ w ∈ Bundle.ownAtoms0 own ic cls names, w.before args s' = true := vx_own hat' (vx_isRefq hU'.1) (vx_isRefq hN'.1) hU'.2.word hN'.2.word
  have hown' : s'.vm.findClass own = some m.cls := by rw [hvm]; exact hown
  have hins : (Cond.instantiable cls 6).before args s' = true := h _ (by simp [Bundle.ownAtoms0])
  obtain ⟨vm₁, cX, kX, hfX, hkX, -, -, X₁, st1⟩ := Y.newCold hexec (own := own) (C := cls) (index := ik) (n := 6) hown' hk' hins hini'
    (g := F0 m pc ls rest) rfl (by rw [hb]; exact d0) (Nat.le_refl _) (Nat.le_refl _)
  generalize hT1 : (T.setVm vm₁).pushCell { cls := cX, slots := kX.instanceTypes.map defaultValue, vm := .none } = T1 at X₁ st1
  have hcat : (Value.ref T.heap.size).category = 1 := rfl
  have hcellA : T1.heap[T.heap.size]? = some (freshCell cX kX) := by rw [← hT1]; exact State.heap_pushCell_size _ _
  have d3' : decode c.code (pc + 3) = .ok (.dup, 1) := by rw [hb]; exact d3
  obtain ⟨U, hsteps, hrun, hend, hW, hsame, ce, hce, hO⟩ := X₁.ctorThrow0 hexec htr (own := own) (cls := cls) (names := names) (ic := ic) hown' hcls hnames h (fun x hx => nomatch hx) hfX hkX hcellA (by rw [hhp, hT]; exact Nat.le_refl _)
    (g := { method := m, pc := pc + 4, locals := ls, stack := .ref T.heap.size :: .ref T.heap.size :: rest, locked := none }) rfl hsize rfl rfl (rest := rest) rfl
    (by rw [hb]; exact d4) (by rw [hb]; exact d7) hout hRframes (by simp only [List.map_cons, List.sum_cons, hcat]; omega) hlocks
  obtain ⟨f1, f2⟩ := vx_frame hsame
  rw [hhp] at f1 f2
  have hWs : s.WarmedH U.vm := State.WarmedH.trans hW0 hW
  have hcl : s.vm.findClass cls = some ce.cls := by
    have h9 := hO.cls
    rw [hvm] at h9
    exact h9
  have hall : s.sameButNew ({ U with vm := s.vm } : State) locs mc ms := by
    subst hA
    obtain ⟨e1, e2⟩ := hsame
    rw [State.setFrames_setFrames] at e1
    have h2 : (T.setVm s.vm).sameButNew ({ U with vm := s.vm } : State) [] (0 + 1) (0 + 6) := ⟨e1, e2⟩
    have h3 := X.same.trans h2
    rw [List.append_nil] at h3
    exact h3.mono hc hs
  refine ⟨U, ?_, .threw T.heap.size, hrun, hend, Or.inr ⟨T.heap.size, rfl, cls, ce, locs, hx U hWs.alike f1 (fun q hq => f2 q hq (fun z hz => nomatch hz)), hce, hO.vm, hcl, hWs, hall, hf⟩⟩
  refine st1 _ ?_
  show Steps p.tables e below (T1.setTop { method := m, pc := pc + 3, locals := ls, stack := .ref T.heap.size :: rest, locked := none }) _
  jvm_step X₁.here [X₁.here.top, hexec, d3', Value.category]
  exact hsteps
/-- 'throw new E("text")': new; dup; ldc; invokespecial; athrow -/
theorem vx_throwS {cc : ByteArray} {pc : Nat} (hexec : p.tables.exec = Jvm.exec) (hb : c.code = cc) (hl : l.stackTraces = false) {own cls text : String} {names : List String} {ik is ic mc ms sa : Nat} {A : Nat → Prop}
    (hown : s.vm.findClass own = some m.cls) (hcls : Bundle.fit cls = true) (hnames : ∀ n ∈ names, Bundle.fit n = true)
    (hk : (Cond.classLink own ik cls).before args s = true) (hini : (Cond.initialized cls).before args s = true) (hstr : vk_R own is text sa s) (hat : ∀ w ∈ vx_atS own ic cls names, w.before args s = true)
    (hgood : ∀ w ∈ Cond.classLink own ik cls :: Cond.initialized cls :: vx_atS own ic cls names, vx_ot w = true)
    (hU : vx_Zq Bundle.tN "UNASSIGNED_STACK" Bundle.steD A s s.heap) (hN : vx_Zq Bundle.tN "SUPPRESSED_SENTINEL" Bundle.listD A s s.heap) (hS : va_S A s.heap H locs) (hsize : ls.size = c.maxLocals)
    (d0 : decode cc pc = .ok (.new ik, 3)) (d3 : decode cc (pc + 3) = .ok (.dup, 1)) (d4 : decode cc (pc + 4) = .ok (.ldc is, 2)) (d6 : decode cc (pc + 6) = .ok (.invokespecial ic, 3)) (d9 : decode cc (pc + 9) = .ok (.athrow, 1))
    (hout : ∀ x ∈ c.exceptionTable.toList, covers x (pc + 9) = false)
    (hRframes : names.length + 3 < R.frames) (hRlocals : (rest.map fun v => v.category).sum + (13 * (names.length + 1) + 43) ≤ R.locals) (hRcells : cells + 1 ≤ R.cells) (hRslots : slots + 6 ≤ R.slots) (hlocks : meth.locks = false)
    (hx : ∀ t : State, s.vm.Alike t.vm → H.size ≤ t.heap.size → (∀ q : Nat, q < H.size → t.heap[q]? = H[q]?) → XC cls s t)
    (hf : ∀ z ∈ locs, free z.base) (hc : cells + 1 ≤ mc) (hs : slots + 6 ≤ ms) :
    W p l e R s m args below meth c H locs cells slots (vx_MQ below Qc XC args s mc ms free) (F0 m pc ls rest) := by
  intro T hT X
  have htr : e.platform.stackTraces = false := (show e.platform.stackTraces = l.stackTraces by rw [X.admits.platform]).trans hl
  have Y := vx_rebase X (R' := { frames := R.frames, locals := R.locals, cells := 1, slots := 6 }) (Nat.le_refl _) (Nat.le_refl _) hRcells hRslots
  obtain ⟨s', hA⟩ : ∃ z, z = (T.setVm s.vm).setFrames (.invoking m args :: below) := ⟨_, rfl⟩
  rw [← hA] at Y
  have hvm : s'.vm = s.vm := by rw [hA]; rfl
  have hhp : s'.heap = H := by rw [hA]; exact hT
  have hW0 : s.WarmedH s'.vm := by rw [hvm]; exact State.WarmedH.refl s
  have hat' : ∀ w ∈ vx_atS own ic cls names, w.before args s' = true := fun w hw => vx_ot_at hW0 hvm.symm (hgood w (List.mem_cons_of_mem _ (List.mem_cons_of_mem _ hw))) (hat w hw)
  have hk' : (Cond.classLink own ik cls).before args s' = true := vx_ot_at hW0 hvm.symm (hgood _ List.mem_cons_self) hk
  have hini' : (Cond.initialized cls).before args s' = true := vx_ot_at hW0 hvm.symm (hgood _ (List.mem_cons_of_mem _ List.mem_cons_self)) hini
  have hU' : vx_Zq Bundle.tN "UNASSIGNED_STACK" Bundle.steD A s' s'.heap := by rw [hhp]; exact vx_Zq.moved hW0.alike (hU.kept hS.2.1)
  have hN' : vx_Zq Bundle.tN "SUPPRESSED_SENTINEL" Bundle.listD A s' s'.heap := by rw [hhp]; exact vx_Zq.moved hW0.alike (hN.kept hS.2.1)
  have h : ∀ w ∈ Bundle.ownAtoms own ic cls names, w.before args s' = true := vx_own hat' (vx_isRefq hU'.1) (vx_isRefq hN'.1) hU'.2.word hN'.2.word
  have hown' : s'.vm.findClass own = some m.cls := by rw [hvm]; exact hown
  have hins : (Cond.instantiable cls 6).before args s' = true := h _ (by simp [Bundle.ownAtoms])
  obtain ⟨vm₁, cX, kX, hfX, hkX, -, -, X₁, st1⟩ := Y.newCold hexec (own := own) (C := cls) (index := ik) (n := 6) hown' hk' hins hini'
    (g := F0 m pc ls rest) rfl (by rw [hb]; exact d0) (Nat.le_refl _) (Nat.le_refl _)
  generalize hT1 : (T.setVm vm₁).pushCell { cls := cX, slots := kX.instanceTypes.map defaultValue, vm := .none } = T1 at X₁ st1
  have hcat : (Value.ref T.heap.size).category = 1 := rfl
  have hcellA : T1.heap[T.heap.size]? = some (freshCell cX kX) := by rw [← hT1]; exact State.heap_pushCell_size _ _
  have d3' : decode c.code (pc + 3) = .ok (.dup, 1) := by rw [hb]; exact d3
  have d4' : decode c.code (pc + 4) = .ok (.ldc is, 2) := by rw [hb]; exact d4
  have hstr' : vk_R own is text sa s' := vk_R.warm hW0 hstr
  obtain ⟨U, hsteps, hrun, hend, hW, hsame, ce, hce, hO⟩ := X₁.ctorThrowS hexec htr (own := own) (cls := cls) (names := names) (ic := ic) hown' hcls hnames h (fun x hx => nomatch hx) hfX hkX hcellA (by rw [hhp, hT]; exact Nat.le_refl _) (msg := .ref sa) rfl
    (g := { method := m, pc := pc + 6, locals := ls, stack := .ref sa :: .ref T.heap.size :: .ref T.heap.size :: rest, locked := none }) rfl hsize rfl rfl (rest := rest) rfl
    (by rw [hb]; exact d6) (by rw [hb]; exact d9) hout hRframes (by simp only [List.map_cons, List.sum_cons, hcat]; omega) hlocks
  obtain ⟨f1, f2⟩ := vx_frame hsame
  rw [hhp] at f1 f2
  have hWs : s.WarmedH U.vm := State.WarmedH.trans hW0 hW
  have hcl : s.vm.findClass cls = some ce.cls := by
    have h9 := hO.cls
    rw [hvm] at h9
    exact h9
  have hall : s.sameButNew ({ U with vm := s.vm } : State) locs mc ms := by
    subst hA
    obtain ⟨e1, e2⟩ := hsame
    rw [State.setFrames_setFrames] at e1
    have h2 : (T.setVm s.vm).sameButNew ({ U with vm := s.vm } : State) [] (0 + 1) (0 + 6) := ⟨e1, e2⟩
    have h3 := X.same.trans h2
    rw [List.append_nil] at h3
    exact h3.mono hc hs
  refine ⟨U, ?_, .threw T.heap.size, hrun, hend, Or.inr ⟨T.heap.size, rfl, cls, ce, locs, hx U hWs.alike f1 (fun q hq => f2 q hq (fun z hz => nomatch hz)), hce, hO.vm, hcl, hWs, hall, hf⟩⟩
  refine st1 _ ?_
  show Steps p.tables e below (T1.setTop { method := m, pc := pc + 3, locals := ls, stack := .ref T.heap.size :: rest, locked := none }) _
  jvm_step X₁.here [X₁.here.top, hexec, d3', Value.category]
  exact X₁.ldcString hexec (own := own) (text := text) (index := is) (a := sa) hown' hstr'.1 hstr'.2
    (g := { method := m, pc := pc + 4, locals := ls, stack := .ref T.heap.size :: .ref T.heap.size :: rest, locked := none }) rfl d4' _ hsteps
/-- 'throw new E("text")', the text by a wide index -/
theorem vx_throwSW {cc : ByteArray} {pc : Nat} (hexec : p.tables.exec = Jvm.exec) (hb : c.code = cc) (hl : l.stackTraces = false) {own cls text : String} {names : List String} {ik is ic mc ms sa : Nat} {A : Nat → Prop}
    (hown : s.vm.findClass own = some m.cls) (hcls : Bundle.fit cls = true) (hnames : ∀ n ∈ names, Bundle.fit n = true)
    (hk : (Cond.classLink own ik cls).before args s = true) (hini : (Cond.initialized cls).before args s = true) (hstr : vk_R own is text sa s) (hat : ∀ w ∈ vx_atS own ic cls names, w.before args s = true)
    (hgood : ∀ w ∈ Cond.classLink own ik cls :: Cond.initialized cls :: vx_atS own ic cls names, vx_ot w = true)
    (hU : vx_Zq Bundle.tN "UNASSIGNED_STACK" Bundle.steD A s s.heap) (hN : vx_Zq Bundle.tN "SUPPRESSED_SENTINEL" Bundle.listD A s s.heap) (hS : va_S A s.heap H locs) (hsize : ls.size = c.maxLocals)
    (d0 : decode cc pc = .ok (.new ik, 3)) (d3 : decode cc (pc + 3) = .ok (.dup, 1)) (d4 : decode cc (pc + 4) = .ok (.ldc_w is, 3)) (d7 : decode cc (pc + 7) = .ok (.invokespecial ic, 3)) (d10 : decode cc (pc + 10) = .ok (.athrow, 1))
    (hout : ∀ x ∈ c.exceptionTable.toList, covers x (pc + 10) = false)
    (hRframes : names.length + 3 < R.frames) (hRlocals : (rest.map fun v => v.category).sum + (13 * (names.length + 1) + 43) ≤ R.locals) (hRcells : cells + 1 ≤ R.cells) (hRslots : slots + 6 ≤ R.slots) (hlocks : meth.locks = false)
    (hx : ∀ t : State, s.vm.Alike t.vm → H.size ≤ t.heap.size → (∀ q : Nat, q < H.size → t.heap[q]? = H[q]?) → XC cls s t)
    (hf : ∀ z ∈ locs, free z.base) (hc : cells + 1 ≤ mc) (hs : slots + 6 ≤ ms) :
    W p l e R s m args below meth c H locs cells slots (vx_MQ below Qc XC args s mc ms free) (F0 m pc ls rest) := by
  intro T hT X
  have htr : e.platform.stackTraces = false := (show e.platform.stackTraces = l.stackTraces by rw [X.admits.platform]).trans hl
  have Y := vx_rebase X (R' := { frames := R.frames, locals := R.locals, cells := 1, slots := 6 }) (Nat.le_refl _) (Nat.le_refl _) hRcells hRslots
  obtain ⟨s', hA⟩ : ∃ z, z = (T.setVm s.vm).setFrames (.invoking m args :: below) := ⟨_, rfl⟩
  rw [← hA] at Y
  have hvm : s'.vm = s.vm := by rw [hA]; rfl
  have hhp : s'.heap = H := by rw [hA]; exact hT
  have hW0 : s.WarmedH s'.vm := by rw [hvm]; exact State.WarmedH.refl s
  have hat' : ∀ w ∈ vx_atS own ic cls names, w.before args s' = true := fun w hw => vx_ot_at hW0 hvm.symm (hgood w (List.mem_cons_of_mem _ (List.mem_cons_of_mem _ hw))) (hat w hw)
  have hk' : (Cond.classLink own ik cls).before args s' = true := vx_ot_at hW0 hvm.symm (hgood _ List.mem_cons_self) hk
  have hini' : (Cond.initialized cls).before args s' = true := vx_ot_at hW0 hvm.symm (hgood _ (List.mem_cons_of_mem _ List.mem_cons_self)) hini
  have hU' : vx_Zq Bundle.tN "UNASSIGNED_STACK" Bundle.steD A s' s'.heap := by rw [hhp]; exact vx_Zq.moved hW0.alike (hU.kept hS.2.1)
  have hN' : vx_Zq Bundle.tN "SUPPRESSED_SENTINEL" Bundle.listD A s' s'.heap := by rw [hhp]; exact vx_Zq.moved hW0.alike (hN.kept hS.2.1)
  have h : ∀ w ∈ Bundle.ownAtoms own ic cls names, w.before args s' = true := vx_own hat' (vx_isRefq hU'.1) (vx_isRefq hN'.1) hU'.2.word hN'.2.word
  have hown' : s'.vm.findClass own = some m.cls := by rw [hvm]; exact hown
  have hins : (Cond.instantiable cls 6).before args s' = true := h _ (by simp [Bundle.ownAtoms])
  obtain ⟨vm₁, cX, kX, hfX, hkX, -, -, X₁, st1⟩ := Y.newCold hexec (own := own) (C := cls) (index := ik) (n := 6) hown' hk' hins hini'
    (g := F0 m pc ls rest) rfl (by rw [hb]; exact d0) (Nat.le_refl _) (Nat.le_refl _)
  generalize hT1 : (T.setVm vm₁).pushCell { cls := cX, slots := kX.instanceTypes.map defaultValue, vm := .none } = T1 at X₁ st1
  have hcat : (Value.ref T.heap.size).category = 1 := rfl
  have hcellA : T1.heap[T.heap.size]? = some (freshCell cX kX) := by rw [← hT1]; exact State.heap_pushCell_size _ _
  have d3' : decode c.code (pc + 3) = .ok (.dup, 1) := by rw [hb]; exact d3
  have d4' : decode c.code (pc + 4) = .ok (.ldc_w is, 3) := by rw [hb]; exact d4
  have hstr' : vk_R own is text sa s' := vk_R.warm hW0 hstr
  obtain ⟨U, hsteps, hrun, hend, hW, hsame, ce, hce, hO⟩ := X₁.ctorThrowS hexec htr (own := own) (cls := cls) (names := names) (ic := ic) hown' hcls hnames h (fun x hx => nomatch hx) hfX hkX hcellA (by rw [hhp, hT]; exact Nat.le_refl _) (msg := .ref sa) rfl
    (g := { method := m, pc := pc + 7, locals := ls, stack := .ref sa :: .ref T.heap.size :: .ref T.heap.size :: rest, locked := none }) rfl hsize rfl rfl (rest := rest) rfl
    (by rw [hb]; exact d7) (by rw [hb]; exact d10) hout hRframes (by simp only [List.map_cons, List.sum_cons, hcat]; omega) hlocks
  obtain ⟨f1, f2⟩ := vx_frame hsame
  rw [hhp] at f1 f2
  have hWs : s.WarmedH U.vm := State.WarmedH.trans hW0 hW
  have hcl : s.vm.findClass cls = some ce.cls := by
    have h9 := hO.cls
    rw [hvm] at h9
    exact h9
  have hall : s.sameButNew ({ U with vm := s.vm } : State) locs mc ms := by
    subst hA
    obtain ⟨e1, e2⟩ := hsame
    rw [State.setFrames_setFrames] at e1
    have h2 : (T.setVm s.vm).sameButNew ({ U with vm := s.vm } : State) [] (0 + 1) (0 + 6) := ⟨e1, e2⟩
    have h3 := X.same.trans h2
    rw [List.append_nil] at h3
    exact h3.mono hc hs
  refine ⟨U, ?_, .threw T.heap.size, hrun, hend, Or.inr ⟨T.heap.size, rfl, cls, ce, locs, hx U hWs.alike f1 (fun q hq => f2 q hq (fun z hz => nomatch hz)), hce, hO.vm, hcl, hWs, hall, hf⟩⟩
  refine st1 _ ?_
  show Steps p.tables e below (T1.setTop { method := m, pc := pc + 3, locals := ls, stack := .ref T.heap.size :: rest, locked := none }) _
  jvm_step X₁.here [X₁.here.top, hexec, d3', Value.category]
  exact X₁.ldcStringW hexec (own := own) (text := text) (index := is) (a := sa) hown' hstr'.1 hstr'.2
    (g := { method := m, pc := pc + 4, locals := ls, stack := .ref T.heap.size :: .ref T.heap.size :: rest, locked := none }) rfl d4' _ hsteps
end Ends
section Bodies
variable {l : Launch}
theorem vx_ofW {y : MethodName} {ws ws' : List Cond} {rm : Room} {Pc : Array Value → State → Prop} {Qc : Array Value → State → Outcome → State → Prop} {XC : String → State → State → Prop} {mc ms : Nat} {free : Addr → Prop} {cc : ByteArray} {maxL : Nat} {ret : Option FieldType}
    (hy : plainName y.cls = true) (hw : ws = Cond.code y cc maxL ret :: ws')
    (body : ∀ p e s m args below meth c s₁, BodyLoose p l y (headSpec ws rm) cc maxL ret e s m args below meth c s₁ → c.maxLocals = maxL → (∀ x ∈ c.exceptionTable.toList, False) → Pc args s →
      W p l e (headSpec ws rm).room s m args below meth c s.heap [] 0 0 (vx_MQ below Qc XC args s mc ms free) (entryFrame m args maxL)) : vx_Met l y ws rm Pc Qc XC mc ms free := by
  refine MetFree.of_bodyS (code := cc) (maxLocals := maxL) (ret := ret) hy ?_ ?_
  · intro args s m h hn
    obtain ⟨meth, c, h1, h2, h3, h4, h5, h6, -, -⟩ := Cond.code_spec hn (atoms_spec (ws := ws) h _ (by rw [hw]; exact List.mem_cons_self))
    exact ⟨meth, c, h1, h2, h3, h4, h5, h6⟩
  · intro p e s m args below meth c s₁ B hml hP _
    have hh0 : s₁.heap = s.heap := by rw [B.state]; rfl
    have ht : ∀ x ∈ c.exceptionTable.toList, False := by
      obtain ⟨meth9, c9, h1, h2, -, -, -, -, h7, -⟩ := Cond.code_spec B.named (atoms_spec (ws := ws) B.pre _ (by rw [hw]; exact List.mem_cons_self))
      cases Option.some.inj (h1.symm.trans B.method)
      cases Option.some.inj (h2.symm.trans (Stand.of_body B).code)
      intro x hx
      rw [Array.isEmpty_iff.mp h7] at hx
      cases hx
    obtain ⟨t, a1, o, b1, b2, b3⟩ := body p e s m args below meth c s₁ B hml ht hP s₁ hh0 (Stand.of_body B)
    exact ⟨t, o, a1, b1, b2, b3⟩
/-- the table of a body with handlers -/
theorem vx_table {p : Program} {x y : MethodName} {S : Spec} {cc bytes : ByteArray} {maxL maxL' : Nat} {ret ret' : Option FieldType} {e : Env} {s s₁ : State} {m : MethodId} {args : Array Value} {below : List Frame} {meth : Method} {c : Code} {hh : List (Nat × Nat × Nat × Nat)}
    (B : BodyLoose p l y S cc maxL ret e s m args below meth c s₁) (h : (Cond.codeWith y bytes maxL' ret' hh).before args s = true) : c.exceptionTable.toList = tableOf hh := by
  obtain ⟨m9, meth9, c9, hn9, h1, h2, -, -, h6, -⟩ := Cond.codeWith_spec h
  cases Option.some.inj (hn9.symm.trans B.named)
  cases Option.some.inj (h1.symm.trans B.method)
  cases Option.some.inj (h2.symm.trans (Stand.of_body B).code)
  rw [← h6, table_eq]
end Bodies
end VXA
/-! ===== END ===== -/
/-! ===== BEGIN a static call of a method with an exception table ===== -/
section VXS
variable {p : Program} {l : Launch} {e : Env} {R : Room} {s : State} {m : MethodId} {args : Array Value} {below : List Frame} {meth : Method} {c : Code} {T : State} {H : Heap} {locs : List Loc} {cells slots : Nat}
abbrev vx_CSW (R : Room) (s : State) (args : Array Value) (own : String) (index : Nat) (y : MethodName) (bytes : ByteArray) (maxL : Nat) (ret : Option FieldType) (hh : List (Nat × Nat × Nat × Nat)) (ws : List Cond) (rm : Room) (mc ms n : Nat) : Prop :=
  (rm.cells = mc ∧ rm.slots = ms ∧ rm.frames + 1 ≤ R.frames ∧ 8 + (maxL + 11) + rm.locals ≤ R.locals ∧ (∀ w ∈ ws, ∀ (a' : Array Value) (U : State), s.WarmedH U.vm → w.before a' U = true) ∧ Cond.codeWith y bytes maxL ret hh ∈ ws) ∧
  (Cond.codeWith y bytes maxL ret hh).before args s = true ∧ (Cond.initialized y.cls).before args s = true ∧ (y.cls ≠ "java/lang/invoke/MethodHandle" ∧ y.cls ≠ "java/lang/invoke/VarHandle") ∧
  (∀ sig, parseMethodDescriptor y.desc = some sig → n = sig.parameters.length) ∧ (Cond.methodLink own index y).before args s = true ∧ (Cond.static y).before args s = true
theorem vx_cwSW {own : String} {index maxL mc ms : Nat} {y : MethodName} {bytes : ByteArray} {ret : Option FieldType} {hh : List (Nat × Nat × Nat × Nat)} {Ts ws ws' : List Cond} {rm : Room} (n : Nat) (ht : ∀ w ∈ Ts, w.before args s = true) (hT : GoodIn Ts (va_wsS own index y ws)) (hw : ws = Cond.codeWith y bytes maxL ret hh :: ws') (hrc : rm.cells = mc) (hrs : rm.slots = ms)
    (hd : y.cls ≠ "java/lang/invoke/MethodHandle" ∧ y.cls ≠ "java/lang/invoke/VarHandle" ∧ (parseMethodDescriptor y.desc).map (fun d => d.parameters.length) = some n) (hR : rm.frames + 1 ≤ R.frames ∧ 8 + (maxL + 11) + rm.locals ≤ R.locals) :
    vx_CSW R s args own index y bytes maxL ret hh ws rm mc ms n := by
  have ok : ∀ w ∈ va_wsS own index y ws, w.before args s = true := fun w h => ht w (hT w h).1
  have hG : GoodIn Ts ws := fun w h => hT w (by unfold va_wsS; exact List.mem_append_right _ h)
  have hc : Cond.codeWith y bytes maxL ret hh ∈ ws := by rw [hw]; exact List.mem_cons_self
  refine ⟨⟨hrc, hrs, hR.1, hR.2, pay_in ht hG, hc⟩, ht _ (hG _ hc).1, ok _ (by simp [va_wsS]), ⟨hd.1, hd.2.1⟩, fun sig h => ?_, ok _ (by simp [va_wsS]), ok _ (by simp [va_wsS])⟩
  have h2 := hd.2.2
  rw [h] at h2
  exact (Option.some.inj h2).symm
theorem vx_callSW (X : Stand p l e R s m args below meth c T locs cells slots) (hexec : p.tables.exec = Jvm.exec) {own : String} {index : Nat} {y : MethodName} {bytes : ByteArray} {maxL : Nat} {ret : Option FieldType} {hh : List (Nat × Nat × Nat × Nat)}
    (hown : s.vm.findClass own = some m.cls) (hlink : (Cond.methodLink own index y).before args s = true) (hstat : (Cond.static y).before args s = true) (hinit : (Cond.initialized y.cls).before args s = true)
    (hcode : (Cond.codeWith y bytes maxL ret hh).before args s = true) (hy : y.cls ≠ "java/lang/invoke/MethodHandle" ∧ y.cls ≠ "java/lang/invoke/VarHandle")
    {W9 : Nat} {Pre : Pt → Array Value → Prop} {Post : Pt → Array Value → Option Value → Pt → Prop} (hK : Back l R p e below s args y 3 W9 Pre Post)
    {g : JFrame} (hg : g.method = m) (hsize : g.locals.size = c.maxLocals) {argsL rest : List Value} (hlen : ∀ sig, parseMethodDescriptor y.desc = some sig → argsL.length = sig.parameters.length)
    (hstack : g.stack = argsL.reverse ++ rest) (hW : 2 * g.monitorRoom + (rest.map fun v => v.category).sum ≤ W9) (hdg : decode c.code g.pc = .ok (.invokestatic index, 3))
    (hpre : ∀ vm₁, s.WarmedH vm₁ → Pre ⟨T.setVm vm₁, locs, cells, slots⟩ argsL.toArray) :
    ∃ (v : Option Value) (vm₁ : Vm) (B : Pt), s.WarmedH vm₁ ∧ Stand p l e R s m args below meth c B.U B.locs B.cells B.slots ∧ Post ⟨T.setVm vm₁, locs, cells, slots⟩ argsL.toArray v B ∧
      ∀ target, Steps p.tables e below (B.U.setTop { g with pc := g.pc + 3, stack := v.toList ++ rest }) target → Steps p.tables e below (T.setTop g) target := by
  obtain ⟨mk, methM, cM, hnamed, hmethM, -, -, -, -, -, -, hsigM⟩ := Cond.codeWith_spec hcode
  have hstatic : methM.isStatic = true := Cond.static_spec hnamed hmethM hstat
  obtain ⟨kP, hkP, -⟩ := className_of_methodNamed hnamed
  have hinitP : kP.init = .initialized := Cond.initialized_spec (findClass_of_methodNamed hnamed) hkP hinit
  obtain ⟨vm₁, X₁, hstep₁⟩ := X.invokestatic hexec hown hlink hnamed hmethM hstatic hkP hinitP hy (g := g) hg (argsL := argsL) (rest := rest) (hlen _ hsigM) hstack hdg
  obtain ⟨v, B, X', hpost, hsteps⟩ := hK m meth c ⟨T.setVm vm₁, locs, cells, slots⟩ { g with stack := rest } (.invokestatic index) mk argsL.toArray X₁ hg hsize hdg hW (X₁.named hnamed) (hpre vm₁ X₁.warmed)
  exact ⟨v, vm₁, B, X₁.warmed, X', hpost, fun target h => hstep₁ _ fun acts => by rw [doInvoke_state]; exact hsteps.trans h⟩
theorem vx_runSW {y : MethodName} {bytes cc : ByteArray} {maxL nL mc ms n index : Nat} {ret : Option FieldType} {hh : List (Nat × Nat × Nat × Nat)} {ws : List Cond} {rm : Room} {Pc : Array Value → State → Prop} {Qc : Array Value → State → Outcome → State → Prop} {free : Addr → Prop} {Ts : List Cond} {own : String} {As rest : List Value} {g : JFrame}
    (S : CallFix p m c cc nL s args Ts own) (hM : Met l y ws rm Pc Qc mc ms free) (cw : vx_CSW R s args own index y bytes maxL ret hh ws rm mc ms n) (hp : PreS s H Pc As)
    (hg : g.method = m) (hn : As.length = n) (hsize : g.locals.size = nL) (hstack : g.stack = As.reverse ++ rest) (hW : 2 * g.monitorRoom + (rest.map fun v => v.category).sum ≤ 8) (hdg : decode cc g.pc = .ok (.invokestatic index, 3)) (hf : cells + mc ≤ R.cells ∧ slots + ms ≤ R.slots) :
    va_Run p l e R s m args below meth c H locs cells slots mc ms g rest (Qc As.toArray) (free) := by
  obtain ⟨⟨hrc, hrs, hfr, hlo, hws, hcw⟩, hcode, hini, hy, hlen, hl, hstt⟩ := cw
  have hK : Back l R p e below s args y 3 8 (PreOf R mc ms Pc) (PostOf Qc mc ms free) := va_backW (hh := hh) (bytes := bytes) (maxL := maxL) (ret := ret) hM hp.1 hrc hrs hfr hlo hws hcw (fun a' U hW => word_at hW (Or.inl (by first | rfl | simp [Cond.onTables, Cond.keeps, Cond.steady])) hini)
  obtain ⟨hx, hb, hml, ho, -⟩ := S
  intro T hT X
  obtain ⟨v, vm₁, ⟨U', l2, c2, s2⟩, hW₁, X', ⟨g', mk, t, L, e1, e2, hq, h1, hL, h2, h3⟩, st⟩ := vx_callSW X hx (hh := hh) (bytes := bytes) (maxL := maxL) (ret := ret) ho hl hstt hini hcode hy hK hg (hsize.trans hml.symm) (argsL := As) (rest := rest) (fun sig h => hn.trans (hlen sig h)) hstack hW (by rw [hb]; exact hdg)
    (fun vm₁ hW₁ => ⟨hf.1, hf.2, hp.2 (T.setVm vm₁) hT hW₁⟩)
  dsimp only [Pt.U, Pt.locs, Pt.cells, Pt.slots] at X' e1 e2 h1 h2 h3 st
  subst h1; subst h2; subst h3
  exact ⟨v, (T.setVm vm₁).calling g' mk As.toArray, t, U', L, hT, X', hL, e1, e2, hq, st⟩
/-- not caught here, past rows that name other classes: it goes on to the caller -/
theorem vx_outP {p : Program} {l : Launch} {e : Env} {R : Room} {s : State} {m : MethodId} {args : Array Value} {below : List Frame} {meth : Method} {c : Code} {H : Heap} {locs : List Loc} {cells slots : Nat} {free : Addr → Prop} {ls : Array Slot} {rest : List Value} {Qc : Array Value → State → Outcome → State → Prop} {XC : String → State → State → Prop}
    {pc : Nat} {own E : String} {ce : Cell} {q : Addr} {mc ms : Nat} (hown : s.vm.findClass own = some m.cls) (hlocks : meth.locks = false)
    (hpass : ∀ z ∈ c.exceptionTable.toList, covers z pc = false ∨ (z.catchType ≠ 0 ∧ ∃ nm : String, (Cond.classLink own z.catchType nm).before args s = true ∧ va_Nc E nm s)) (hcell : H[q]? = some ce) (hv : ce.vm = .none) (hcl : s.vm.findClass E = some ce.cls)
    (hx : ∀ t : State, t.heap = H → s.vm.Alike t.vm → XC E s t) (hf : ∀ z ∈ locs, free z.base) (hc : cells ≤ mc) (hs : slots ≤ ms) :
    vx_W p l e R s m args below meth c H locs cells slots (vx_MQ below Qc XC args s mc ms free) (F0 m pc ls rest) q := by
  intro T hT X
  have hpl : e.platform.magicAccessors = ({} : Platform).magicAccessors := by rw [X.admits.platform]
  obtain ⟨vm', hW', X', st⟩ := X.outThrough hlocks q (g := F0 m pc ls rest) rfl rfl rfl (cell := ce) (by rw [hT]; exact hcell) (by rw [hv]; rfl)
    (by obtain ⟨k9, h9, -⟩ := Vm.findClass_spec hcl; exact ⟨k9, h9⟩) (fun z hz => by
      rcases hpass z hz with h | ⟨hz0, nm, hl1, hn1⟩
      · exact Or.inl h
      · obtain ⟨c6, hc6, hcl6⟩ := Cond.classLink_spec hown hl1 e.platform hpl
        obtain ⟨a8, b8, h1, h2, h3⟩ := hn1
        cases Option.some.inj (h1.symm.trans hcl)
        cases Option.some.inj (h2.symm.trans hc6)
        exact Or.inr ⟨hz0, _, hcl6, h3⟩)
  obtain ⟨g₀, hfr⟩ := X'.frames_eq
  have hcell9 : ((T.setVm vm').setFrames (.throwing q :: below)).heap[q]? = some ce := by
    show T.heap[q]? = some ce
    rw [hT]; exact hcell
  have hend : Ended ((T.setVm vm').setFrames (.throwing q :: below)) below (.threw q) := State.frames_setFrames _ (State.cur_lt_of_frames hfr)
  refine ⟨(T.setVm vm').setFrames (.throwing q :: below), ?_, .threw q, X'.here.running, hend, Or.inr ⟨q, rfl, E, ce, locs, hx _ hT (X'.ends _).1.alike, hcell9, hv, hcl, (X'.ends _).1, (X'.ends _).2.mono hc hs, hf⟩⟩
  rw [X.pushThrowing_eq]
  exact st
/-- a thing of a world lies in the heap -/
theorem vx_lt {D : va_G} {cl : List vw_C} {ws : va_W} {H1 : Heap} (h : va_P D cl ws H1) {k : Nat} {q : Nat × va_E} (hk : ws[k]? = some q) : q.1 < H1.size := (h k q hk).lt
end VXS
/-! ===== END ===== -/
/-! ===== BEGIN methods with a table of their own: called by a name, returning or throwing ===== -/
section VXH
/-! vx_backW, vx_callVX, vx_callSX, vx_callVW, vx_runVW, vx_runVX, vx_runSX, vx_ofWH follow the same proofs as their sisters above (Free/Laws.lean, Shelf42/LK1.lean); vx_outP calls Shelf42/NT130.lean (outThrough). -/
section
variable {l : Launch} {R : Room} {p : Program} {e : Env} {below : List Frame} {s : State} {sargs : Array Value} {y : MethodName} {len W9 : Nat}
theorem vx_backW {ws : List Cond} {rm : Room} {Pc : Array Value → State → Prop} {Qc : Array Value → State → Outcome → State → Prop} {XC : String → State → State → Prop} {mc ms : Nat} {free : Addr → Prop} {bytes : ByteArray} {maxL : Nat} {ret : Option FieldType} {hh : List (Nat × Nat × Nat × Nat)}
    (hM : vx_Met l y ws rm Pc Qc XC mc ms free) (hblind : FrameBlind Pc) (hrc : rm.cells = mc) (hrs : rm.slots = ms)
    (hframes : rm.frames + 1 ≤ R.frames) (hlocals : W9 + (maxL + 11) + rm.locals ≤ R.locals)
    (hws : ∀ w ∈ ws, ∀ a' U, s.WarmedH U.vm → w.before a' U = true) (hcode : Cond.codeWith y bytes maxL ret hh ∈ ws) (hinit : ∀ a' U, s.WarmedH U.vm → (Cond.initialized y.cls).before a' U = true) :
    vx_Back l R p e below s sargs y len W9 (PreOf R mc ms Pc) (PostOf Qc mc ms free) (vx_Post XC mc ms free) := by
  intro m meth c A g ig mk a X hg hsize hdg hW hn hp
  have h1 : (headSpec ws rm).pre.before a A.U = true := atoms_intro fun w hw => hws w hw _ _ X.warmed
  have h2 : (Cond.codeWith y bytes maxL ret hh).before a A.U = true := hws _ hcode _ _ X.warmed
  have h3 : (Cond.initialized y.cls).before a A.U = true := hinit _ _ X.warmed
  have h4 : A.cells + (headSpec ws rm).room.cells ≤ R.cells := by rw [show (headSpec ws rm).room.cells = mc from hrc]; exact hp.1
  have h5 : A.slots + (headSpec ws rm).room.slots ≤ R.slots := by rw [show (headSpec ws rm).room.slots = ms from hrs]; exact hp.2.1
  have hPc : Pc a (A.U.calling g mk a) := hblind _ _ _ _ hp.2.2
  obtain ⟨U, Ls, c0, s0⟩ := A
  dsimp only [Pt.U, Pt.locs, Pt.cells, Pt.slots] at h1 h2 h3 h4 h5 X hn hPc ⊢
  obtain ⟨m9, methY, cY, hn9, hmY, hcY, -, hlY, -⟩ := Cond.codeWith_spec h2
  cases Option.some.inj (hn9.symm.trans hn)
  obtain ⟨kY, hkY, -⟩ := className_of_methodNamed hn
  have hinitY : kY.init = .initialized := Cond.initialized_spec (findClass_of_methodNamed hn) hkY h3
  have h : At U g.method c below := by rw [hg]; exact X.here
  have hlocals9 : W9 + (maxL + 11) + (headSpec ws rm).room.locals ≤ R.locals := hlocals
  have happ : (headSpec ws rm).appliesLoose y e.platform (U.calling g mk a) = true :=
    Spec.appliesLoose_calling (g := g) h hdg hn hkY hinitY
      (X.room_calling (g := g) (R' := (headSpec ws rm).room) hsize hmY hcY hframes (by rw [hlY]; omega) h4 h5) h1
  obtain ⟨mid, hmid⟩ := h.above
  have hfr : (U.setTop g).frames = (.java g :: mid) ++ below := by rw [State.frames_setTop' g h.top, hmid]; rfl
  obtain ⟨o, s₂, hsteps, -, hend, hq⟩ := Steps.callFree hM p X.admits X.cas X.clock (acts := []) hfr happ hPc trivial
  have hq' : vx_Q Qc XC mc ms free a (U.calling g mk a) o s₂ := hq
  rw [State.frames_setTop' g h.top] at hend
  obtain ⟨g₀, hg0⟩ := Option.isSome_iff_exists.mp h.top
  obtain ⟨r, hr⟩ := State.topJava?_eq_some.mp hg0
  have hr' : (({ U with heap := s₂.heap, slotsUsed := s₂.slotsUsed } : State).setVm s₂.vm).frames = .java g₀ :: r := hr
  rcases hq' with ⟨hqc, L, hfe, hL⟩ | ⟨q, rfl, E, ce, L, hx, hce, hcv, hcl, hW₂, hsm, hL⟩
  · obtain ⟨⟨v, rfl⟩, hW₂, e2, q2, q3, q4, q5, q6⟩ := id hfe
    have e3 : s₂ = ({ (U.calling g mk a).setFrames s₂.frames with heap := s₂.heap, slotsUsed := s₂.slotsUsed } : State).setVm s₂.vm := by
      have : s₂ = ({ s₂ with vm := (U.calling g mk a).vm } : State).setVm s₂.vm := rfl
      rw [e2] at this
      exact this
    obtain ⟨c₂, i₂, len₂, hc₂, hd₂, hf₂⟩ := hend
    have hW' : U.WarmedH s₂.vm := hW₂
    have hcc : c₂ = c := by
      have h1 : s₂.code? g.method = U.code? g.method := by
        rw [State.code?_eq, State.code?_eq, hW'.alike.method?]
      exact Option.some.inj (hc₂.symm.trans (h1.trans h.code))
    subst hcc
    have hlen : len₂ = len := by rw [hdg] at hd₂; cases hd₂; rfl
    subst hlen
    have hs₂ : s₂ = (({ U with heap := s₂.heap, slotsUsed := s₂.slotsUsed } : State).setVm s₂.vm).setTop { g with pc := g.pc + len₂, stack := v.toList ++ g.stack } := by
      refine e3.trans ?_
      rw [hf₂, State.calling_eq h.top, State.setFrames_setFrames, State.setTop_of_frames _ hr', hr]
      rfl
    have hsame : U.sameButNew ({ U with heap := s₂.heap, slotsUsed := s₂.slotsUsed } : State) L mc ms := by
      refine ⟨?_, q2, q3, q4, q5, q6⟩
      obtain ⟨t, ht, -⟩ := State.frames_cons hr
      show ({ U with heap := s₂.heap, slotsUsed := s₂.slotsUsed } : State) = { U.setFrames U.frames with heap := s₂.heap, slotsUsed := s₂.slotsUsed }
      rw [State.setFrames_self ht]
    subst hg
    refine Or.inl ⟨v, ⟨(({ U with heap := s₂.heap, slotsUsed := s₂.slotsUsed } : State).setVm s₂.vm), Ls ++ L, c0 + mc, s0 + ms⟩,
      ⟨X.admits, X.cas, X.clock, X.frames, X.room, X.hears, X.method, X.code, (X.here.setHeapUsed s₂.heap s₂.slotsUsed).setVm hW'.alike, X.tail, State.WarmedH.trans X.warmed hW', X.limits, X.bytes, X.same.trans (hsame.setVm s.vm)⟩,
      ⟨g, mk, s₂, L, rfl, rfl, hqc, rfl, hL, rfl, rfl⟩, ?_⟩
    show Steps p.tables e below _ ((({ U with heap := s₂.heap, slotsUsed := s₂.slotsUsed } : State).setVm s₂.vm).setTop { g with pc := g.pc + len₂, stack := v.toList ++ g.stack })
    rw [← hs₂]
    exact hsteps
  · obtain ⟨e2, q2, q3, q4, q5, q6⟩ := id hsm
    have e3 : s₂ = ({ (U.calling g mk a).setFrames s₂.frames with heap := s₂.heap, slotsUsed := s₂.slotsUsed } : State).setVm s₂.vm := by
      have : s₂ = ({ s₂ with vm := (U.calling g mk a).vm } : State).setVm s₂.vm := rfl
      rw [e2] at this
      exact this
    have hf₂ : s₂.frames = .throwing q :: .java g :: U.frames.tail := hend
    have hW' : U.WarmedH s₂.vm := hW₂
    have hs₂ : s₂ = ((({ U with heap := s₂.heap, slotsUsed := s₂.slotsUsed } : State).setVm s₂.vm).setTop g).pushFrame (.throwing q) := by
      refine e3.trans ?_
      rw [hf₂, State.calling_eq h.top, State.setFrames_setFrames, State.pushFrame, State.frames_setTop _ hr', State.setTop_of_frames _ hr', State.setFrames_setFrames, hr]
      rfl
    have hsame : U.sameButNew ({ U with heap := s₂.heap, slotsUsed := s₂.slotsUsed } : State) L mc ms := by
      refine ⟨?_, q2, q3, q4, q5, q6⟩
      obtain ⟨t, ht, -⟩ := State.frames_cons hr
      show ({ U with heap := s₂.heap, slotsUsed := s₂.slotsUsed } : State) = { U.setFrames U.frames with heap := s₂.heap, slotsUsed := s₂.slotsUsed }
      rw [State.setFrames_self ht]
    subst hg
    refine Or.inr ⟨q, ⟨(({ U with heap := s₂.heap, slotsUsed := s₂.slotsUsed } : State).setVm s₂.vm), Ls ++ L, c0 + mc, s0 + ms⟩,
      ⟨X.admits, X.cas, X.clock, X.frames, X.room, X.hears, X.method, X.code, (X.here.setHeapUsed s₂.heap s₂.slotsUsed).setVm hW'.alike, X.tail, State.WarmedH.trans X.warmed hW', X.limits, X.bytes, X.same.trans (hsame.setVm s.vm)⟩,
      ⟨g, mk, s₂, L, E, ce, rfl, rfl, hx, hce, hcv, hcl, rfl, hL, rfl, rfl⟩, ?_⟩
    show Steps p.tables e below _ (((({ U with heap := s₂.heap, slotsUsed := s₂.slotsUsed } : State).setVm s₂.vm).setTop g).pushFrame (.throwing q))
    rw [← hs₂]
    exact hsteps
end
variable {p : Program} {l : Launch} {e : Env} {R : Room} {s : State} {m : MethodId} {args : Array Value} {below : List Frame} {meth : Method} {c : Code} {T : State} {H : Heap} {locs : List Loc} {cells slots : Nat}
theorem vx_callVX (X : Stand p l e R s m args below meth c T locs cells slots) (hexec : p.tables.exec = Jvm.exec) {own C : String} {index : Nat} {y : MethodName} {bytes : ByteArray} {maxL : Nat} {ret : Option FieldType} {hh : List (Nat × Nat × Nat × Nat)}
    (hown : s.vm.findClass own = some m.cls) (hlink : (Cond.methodLink own index y).before args s = true) (hinst : (Cond.instanceMethod y).before args s = true) (hsel : (Cond.selects C y y).before args s = true)
    (hcode : (Cond.codeWith y bytes maxL ret hh).before args s = true) (hy : y.cls ≠ "java/lang/invoke/MethodHandle" ∧ y.cls ≠ "java/lang/invoke/VarHandle")
    {W9 : Nat} {Pre : Pt → Array Value → Prop} {Post : Pt → Array Value → Option Value → Pt → Prop} {PostX : Pt → Array Value → Addr → Pt → Prop} (hK : vx_Back l R p e below s args y 3 W9 Pre Post PostX)
    {b : Addr} {cellB : Cell} (hcell : T.heap[b]? = some cellB) (hobj : cellB.vm.isStatics = false) (hcls : s.vm.findClass C = some cellB.cls)
    {g : JFrame} (hg : g.method = m) (hsize : g.locals.size = c.maxLocals) {argsL rest : List Value} (hlen : ∀ sig, parseMethodDescriptor y.desc = some sig → argsL.length = sig.parameters.length)
    (hstack : g.stack = argsL.reverse ++ .ref b :: rest) (hW : 2 * g.monitorRoom + (rest.map fun v => v.category).sum ≤ W9) (hdg : decode c.code g.pc = .ok (.invokevirtual index, 3))
    (hpre : ∀ vm₁, s.WarmedH vm₁ → Pre ⟨T.setVm vm₁, locs, cells, slots⟩ (Value.ref b :: argsL).toArray) :
    (∃ (v : Option Value) (vm₁ : Vm) (B : Pt), s.WarmedH vm₁ ∧ Stand p l e R s m args below meth c B.U B.locs B.cells B.slots ∧ Post ⟨T.setVm vm₁, locs, cells, slots⟩ (Value.ref b :: argsL).toArray v B ∧
      ∀ target, Steps p.tables e below (B.U.setTop { g with pc := g.pc + 3, stack := v.toList ++ rest }) target → Steps p.tables e below (T.setTop g) target) ∨
    (∃ (q : Addr) (vm₁ : Vm) (B : Pt), s.WarmedH vm₁ ∧ Stand p l e R s m args below meth c B.U B.locs B.cells B.slots ∧ PostX ⟨T.setVm vm₁, locs, cells, slots⟩ (Value.ref b :: argsL).toArray q B ∧
      Steps p.tables e below (T.setTop g) ((B.U.setTop { g with stack := rest }).pushFrame (.throwing q))) := by
  obtain ⟨mk, methM, hnamed, hmethM, hstM, habM⟩ := Cond.instanceMethod_spec hinst
  obtain ⟨m8, methM', cM, hn8, hmethM', -, -, -, -, -, -, hsigM⟩ := Cond.codeWith_spec hcode
  cases Option.some.inj (hn8.symm.trans hnamed)
  cases hmethM.symm.trans hmethM'
  obtain ⟨c2, r2, m2, q1, q2, q3, q4, kP, hkP, hkPi⟩ := Cond.selects_spec hsel
  cases hcls.symm.trans q1
  cases (State.methodFound?_of_named hnamed hy).symm.trans q2
  cases hnamed.symm.trans q3
  have hselP : selectMethod e.platform s.vm cellB.cls mk = .method mk := by rw [Launch.admits_selectMethod X.admits]; exact q4
  obtain ⟨vm₁, X₁, hstep₁⟩ := X.invokevirtual hexec hown hlink hnamed hmethM hstM hkP hkPi hy (a := b) (cell := cellB) hcell
    (fun z h => by rw [h] at hobj; cases hobj) hselP hmethM habM hkP hkPi (g := g) hg (argsL := argsL) (rest := rest) (hlen _ hsigM) hstack hdg
  rcases hK m meth c ⟨T.setVm vm₁, locs, cells, slots⟩ { g with stack := rest } (.invokevirtual index) mk (Value.ref b :: argsL).toArray X₁ hg hsize hdg hW (X₁.named hnamed) (hpre vm₁ X₁.warmed) with ⟨v, B, X', hpost, hsteps⟩ | ⟨q, B, X', hpost, hsteps⟩
  · exact Or.inl ⟨v, vm₁, B, X₁.warmed, X', hpost, fun target h => hstep₁ _ fun acts => by rw [doInvoke_state]; exact hsteps.trans h⟩
  · exact Or.inr ⟨q, vm₁, B, X₁.warmed, X', hpost, hstep₁ _ fun acts => by rw [doInvoke_state]; exact hsteps⟩
theorem vx_callSX (X : Stand p l e R s m args below meth c T locs cells slots) (hexec : p.tables.exec = Jvm.exec) {own : String} {index : Nat} {y : MethodName} {bytes : ByteArray} {maxL : Nat} {ret : Option FieldType} {hh : List (Nat × Nat × Nat × Nat)}
    (hown : s.vm.findClass own = some m.cls) (hlink : (Cond.methodLink own index y).before args s = true) (hstat : (Cond.static y).before args s = true) (hinit : (Cond.initialized y.cls).before args s = true)
    (hcode : (Cond.codeWith y bytes maxL ret hh).before args s = true) (hy : y.cls ≠ "java/lang/invoke/MethodHandle" ∧ y.cls ≠ "java/lang/invoke/VarHandle")
    {W9 : Nat} {Pre : Pt → Array Value → Prop} {Post : Pt → Array Value → Option Value → Pt → Prop} {PostX : Pt → Array Value → Addr → Pt → Prop} (hK : vx_Back l R p e below s args y 3 W9 Pre Post PostX)
    {g : JFrame} (hg : g.method = m) (hsize : g.locals.size = c.maxLocals) {argsL rest : List Value} (hlen : ∀ sig, parseMethodDescriptor y.desc = some sig → argsL.length = sig.parameters.length)
    (hstack : g.stack = argsL.reverse ++ rest) (hW : 2 * g.monitorRoom + (rest.map fun v => v.category).sum ≤ W9) (hdg : decode c.code g.pc = .ok (.invokestatic index, 3))
    (hpre : ∀ vm₁, s.WarmedH vm₁ → Pre ⟨T.setVm vm₁, locs, cells, slots⟩ argsL.toArray) :
    (∃ (v : Option Value) (vm₁ : Vm) (B : Pt), s.WarmedH vm₁ ∧ Stand p l e R s m args below meth c B.U B.locs B.cells B.slots ∧ Post ⟨T.setVm vm₁, locs, cells, slots⟩ argsL.toArray v B ∧
      ∀ target, Steps p.tables e below (B.U.setTop { g with pc := g.pc + 3, stack := v.toList ++ rest }) target → Steps p.tables e below (T.setTop g) target) ∨
    (∃ (q : Addr) (vm₁ : Vm) (B : Pt), s.WarmedH vm₁ ∧ Stand p l e R s m args below meth c B.U B.locs B.cells B.slots ∧ PostX ⟨T.setVm vm₁, locs, cells, slots⟩ argsL.toArray q B ∧
      Steps p.tables e below (T.setTop g) ((B.U.setTop { g with stack := rest }).pushFrame (.throwing q))) := by
  obtain ⟨mk, methM, cM, hnamed, hmethM, -, -, -, -, -, -, hsigM⟩ := Cond.codeWith_spec hcode
  have hstatic : methM.isStatic = true := Cond.static_spec hnamed hmethM hstat
  obtain ⟨kP, hkP, -⟩ := className_of_methodNamed hnamed
  have hinitP : kP.init = .initialized := Cond.initialized_spec (findClass_of_methodNamed hnamed) hkP hinit
  obtain ⟨vm₁, X₁, hstep₁⟩ := X.invokestatic hexec hown hlink hnamed hmethM hstatic hkP hinitP hy (g := g) hg (argsL := argsL) (rest := rest) (hlen _ hsigM) hstack hdg
  rcases hK m meth c ⟨T.setVm vm₁, locs, cells, slots⟩ { g with stack := rest } (.invokestatic index) mk argsL.toArray X₁ hg hsize hdg hW (X₁.named hnamed) (hpre vm₁ X₁.warmed) with ⟨v, B, X', hpost, hsteps⟩ | ⟨q, B, X', hpost, hsteps⟩
  · exact Or.inl ⟨v, vm₁, B, X₁.warmed, X', hpost, fun target h => hstep₁ _ fun acts => by rw [doInvoke_state]; exact hsteps.trans h⟩
  · exact Or.inr ⟨q, vm₁, B, X₁.warmed, X', hpost, hstep₁ _ fun acts => by rw [doInvoke_state]; exact hsteps⟩
theorem vx_callVW (X : Stand p l e R s m args below meth c T locs cells slots) (hexec : p.tables.exec = Jvm.exec) {own C : String} {index : Nat} {y : MethodName} {bytes : ByteArray} {maxL : Nat} {ret : Option FieldType} {hh : List (Nat × Nat × Nat × Nat)}
    (hown : s.vm.findClass own = some m.cls) (hlink : (Cond.methodLink own index y).before args s = true) (hinst : (Cond.instanceMethod y).before args s = true) (hsel : (Cond.selects C y y).before args s = true)
    (hcode : (Cond.codeWith y bytes maxL ret hh).before args s = true) (hy : y.cls ≠ "java/lang/invoke/MethodHandle" ∧ y.cls ≠ "java/lang/invoke/VarHandle")
    {W9 : Nat} {Pre : Pt → Array Value → Prop} {Post : Pt → Array Value → Option Value → Pt → Prop} (hK : Back l R p e below s args y 3 W9 Pre Post)
    {b : Addr} {cellB : Cell} (hcell : T.heap[b]? = some cellB) (hobj : cellB.vm.isStatics = false) (hcls : s.vm.findClass C = some cellB.cls)
    {g : JFrame} (hg : g.method = m) (hsize : g.locals.size = c.maxLocals) {argsL rest : List Value} (hlen : ∀ sig, parseMethodDescriptor y.desc = some sig → argsL.length = sig.parameters.length)
    (hstack : g.stack = argsL.reverse ++ .ref b :: rest) (hW : 2 * g.monitorRoom + (rest.map fun v => v.category).sum ≤ W9) (hdg : decode c.code g.pc = .ok (.invokevirtual index, 3))
    (hpre : ∀ vm₁, s.WarmedH vm₁ → Pre ⟨T.setVm vm₁, locs, cells, slots⟩ (Value.ref b :: argsL).toArray) :
    ∃ (v : Option Value) (vm₁ : Vm) (B : Pt), s.WarmedH vm₁ ∧ Stand p l e R s m args below meth c B.U B.locs B.cells B.slots ∧ Post ⟨T.setVm vm₁, locs, cells, slots⟩ (Value.ref b :: argsL).toArray v B ∧
      ∀ target, Steps p.tables e below (B.U.setTop { g with pc := g.pc + 3, stack := v.toList ++ rest }) target → Steps p.tables e below (T.setTop g) target := by
  obtain ⟨mk, methM, hnamed, hmethM, hstM, habM⟩ := Cond.instanceMethod_spec hinst
  obtain ⟨m8, methM', cM, hn8, hmethM', -, -, -, -, -, -, hsigM⟩ := Cond.codeWith_spec hcode
  cases Option.some.inj (hn8.symm.trans hnamed)
  cases hmethM.symm.trans hmethM'
  obtain ⟨c2, r2, m2, q1, q2, q3, q4, kP, hkP, hkPi⟩ := Cond.selects_spec hsel
  cases hcls.symm.trans q1
  cases (State.methodFound?_of_named hnamed hy).symm.trans q2
  cases hnamed.symm.trans q3
  have hselP : selectMethod e.platform s.vm cellB.cls mk = .method mk := by rw [Launch.admits_selectMethod X.admits]; exact q4
  obtain ⟨vm₁, X₁, hstep₁⟩ := X.invokevirtual hexec hown hlink hnamed hmethM hstM hkP hkPi hy (a := b) (cell := cellB) hcell
    (fun z h => by rw [h] at hobj; cases hobj) hselP hmethM habM hkP hkPi (g := g) hg (argsL := argsL) (rest := rest) (hlen _ hsigM) hstack hdg
  obtain ⟨v, B, X', hpost, hsteps⟩ := hK m meth c ⟨T.setVm vm₁, locs, cells, slots⟩ { g with stack := rest } (.invokevirtual index) mk (Value.ref b :: argsL).toArray X₁ hg hsize hdg hW (X₁.named hnamed) (hpre vm₁ X₁.warmed)
  exact ⟨v, vm₁, B, X₁.warmed, X', hpost, fun target h => hstep₁ _ fun acts => by rw [doInvoke_state]; exact hsteps.trans h⟩
abbrev vx_CVW (R : Room) (s : State) (args : Array Value) (own C : String) (index : Nat) (y : MethodName) (bytes : ByteArray) (maxL : Nat) (ret : Option FieldType) (hh : List (Nat × Nat × Nat × Nat)) (ws : List Cond) (rm : Room) (mc ms n : Nat) : Prop :=
  (rm.cells = mc ∧ rm.slots = ms ∧ rm.frames + 1 ≤ R.frames ∧ 8 + (maxL + 11) + rm.locals ≤ R.locals ∧ (∀ w ∈ ws, ∀ (a' : Array Value) (U : State), s.WarmedH U.vm → w.before a' U = true) ∧ Cond.codeWith y bytes maxL ret hh ∈ ws) ∧
  (Cond.codeWith y bytes maxL ret hh).before args s = true ∧ (Cond.initialized y.cls).before args s = true ∧ (y.cls ≠ "java/lang/invoke/MethodHandle" ∧ y.cls ≠ "java/lang/invoke/VarHandle") ∧
  (∀ sig, parseMethodDescriptor y.desc = some sig → n = sig.parameters.length) ∧ (Cond.methodLink own index y).before args s = true ∧ (Cond.instanceMethod y).before args s = true ∧ (Cond.selects C y y).before args s = true
theorem vx_cwVW {own C : String} {index maxL mc ms : Nat} {y : MethodName} {bytes : ByteArray} {ret : Option FieldType} {hh : List (Nat × Nat × Nat × Nat)} {Ts ws ws' : List Cond} {rm : Room} (n : Nat) (ht : ∀ w ∈ Ts, w.before args s = true) (hT : GoodIn Ts (wsV own index C y ws)) (hw : ws = Cond.codeWith y bytes maxL ret hh :: ws') (hrc : rm.cells = mc) (hrs : rm.slots = ms)
    (hd : y.cls = C ∧ y.cls ≠ "java/lang/invoke/MethodHandle" ∧ y.cls ≠ "java/lang/invoke/VarHandle" ∧ (parseMethodDescriptor y.desc).map (fun d => d.parameters.length) = some n) (hR : rm.frames + 1 ≤ R.frames ∧ 8 + (maxL + 11) + rm.locals ≤ R.locals) :
    vx_CVW R s args own C index y bytes maxL ret hh ws rm mc ms n := by
  obtain ⟨hC, hd⟩ := hd
  subst hC
  have ok : ∀ w ∈ wsV own index y.cls y ws, w.before args s = true := fun w h => ht w (hT w h).1
  have hG : GoodIn Ts ws := fun w h => hT w (by unfold wsV; exact List.mem_append_right _ h)
  have hc : Cond.codeWith y bytes maxL ret hh ∈ ws := by rw [hw]; exact List.mem_cons_self
  refine ⟨⟨hrc, hrs, hR.1, hR.2, pay_in ht hG, hc⟩, ht _ (hG _ hc).1, ok _ (by simp [wsV]), ⟨hd.1, hd.2.1⟩, fun sig h => ?_, ok _ (by simp [wsV]), ok _ (by simp [wsV]), ok _ (by simp [wsV])⟩
  have h2 := hd.2.2
  rw [h] at h2
  exact (Option.some.inj h2).symm
theorem vx_runVW {y : MethodName} {bytes cc : ByteArray} {maxL nL mc ms n index : Nat} {ret : Option FieldType} {hh : List (Nat × Nat × Nat × Nat)} {ws : List Cond} {rm : Room} {Pc : Array Value → State → Prop} {Qc : Array Value → State → Outcome → State → Prop} {free : Addr → Prop} {Ts : List Cond} {own C : String} {b : Addr} {As rest : List Value} {g : JFrame}
    (S : CallFix p m c cc nL s args Ts own) (hM : Met l y ws rm Pc Qc mc ms free) (cw : vx_CVW R s args own C index y bytes maxL ret hh ws rm mc ms n) (hp : PreV s H C b Pc As)
    (hg : g.method = m) (hn : As.length = n) (hsize : g.locals.size = nL) (hstack : g.stack = As.reverse ++ .ref b :: rest) (hW : 2 * g.monitorRoom + (rest.map fun v => v.category).sum ≤ 8) (hdg : decode cc g.pc = .ok (.invokevirtual index, 3)) (hf : cells + mc ≤ R.cells ∧ slots + ms ≤ R.slots) :
    va_Run p l e R s m args below meth c H locs cells slots mc ms g rest (Qc (Value.ref b :: As).toArray) free := by
  obtain ⟨⟨hrc, hrs, hfr, hlo, hws, hcw⟩, hcode, hini, hy, hlen, hl, hin, hse⟩ := cw
  have hK : Back l R p e below s args y 3 8 (PreOf R mc ms Pc) (PostOf Qc mc ms free) := va_backW (hh := hh) (bytes := bytes) (maxL := maxL) (ret := ret) hM hp.1 hrc hrs hfr hlo hws hcw (fun a' U hW => word_at hW (Or.inl (by first | rfl | simp [Cond.onTables, Cond.keeps, Cond.steady])) hini)
  obtain ⟨hx, hb, hml, ho, -⟩ := S
  obtain ⟨-, ⟨cellB, hcB, hoB, hclB⟩, hPc⟩ := hp
  intro T hT X
  obtain ⟨v, vm₁, ⟨U', l2, c2, s2⟩, hW₁, X', ⟨g', mk, t, L, e1, e2, hq, h1, hL, h2, h3⟩, st⟩ := vx_callVW X hx (C := C) (hh := hh) (bytes := bytes) (maxL := maxL) (ret := ret) ho hl hin hse hcode hy hK (by rw [hT]; exact hcB) hoB hclB hg (hsize.trans hml.symm) (argsL := As) (rest := rest) (fun sig h => hn.trans (hlen sig h)) hstack hW (by rw [hb]; exact hdg)
    (fun vm₁ hW₁ => ⟨hf.1, hf.2, hPc (T.setVm vm₁) hT hW₁⟩)
  dsimp only [Pt.U, Pt.locs, Pt.cells, Pt.slots] at X' e1 e2 h1 h2 h3 st
  subst h1; subst h2; subst h3
  exact ⟨v, (T.setVm vm₁).calling g' mk (Value.ref b :: As).toArray, t, U', L, hT, X', hL, e1, e2, hq, st⟩
section
variable {y : MethodName} {bytes cc : ByteArray} {maxL nL mc ms n index : Nat} {ret : Option FieldType} {ws : List Cond} {rm : Room} {Pc : Array Value → State → Prop} {Qc : Array Value → State → Outcome → State → Prop} {XC : String → State → State → Prop} {free : Addr → Prop} {Ts : List Cond} {own C : String} {b : Addr} {As rest : List Value} {g : JFrame}
theorem vx_runVX {hh : List (Nat × Nat × Nat × Nat)} (S : CallFix p m c cc nL s args Ts own) (hM : vx_Met l y ws rm Pc Qc XC mc ms free) (cw : vx_CVW R s args own C index y bytes maxL ret hh ws rm mc ms n) (hp : PreV s H C b Pc As)
    (hg : g.method = m) (hn : As.length = n) (hsize : g.locals.size = nL) (hstack : g.stack = As.reverse ++ .ref b :: rest) (hW : 2 * g.monitorRoom + (rest.map fun v => v.category).sum ≤ 8) (hdg : decode cc g.pc = .ok (.invokevirtual index, 3)) (hf : cells + mc ≤ R.cells ∧ slots + ms ≤ R.slots) :
    vx_Run p l e R s m args below meth c H locs cells slots mc ms g rest (Qc (Value.ref b :: As).toArray) XC free := by
  obtain ⟨⟨hrc, hrs, hfr, hlo, hws, hcw⟩, hcode, hini, hy, hlen, hl, hin, hse⟩ := cw
  have hK : vx_Back l R p e below s args y 3 8 (PreOf R mc ms Pc) (PostOf Qc mc ms free) (vx_Post XC mc ms free) := vx_backW (hh := hh) (bytes := bytes) (maxL := maxL) (ret := ret) hM hp.1 hrc hrs hfr hlo hws hcw (fun a' U hW => word_at hW (Or.inl (by first | rfl | simp [Cond.onTables, Cond.keeps, Cond.steady])) hini)
  obtain ⟨hx, hb, hml, ho, -⟩ := S
  obtain ⟨-, ⟨cellB, hcB, hoB, hclB⟩, hPc⟩ := hp
  intro T hT X
  rcases vx_callVX X hx (C := C) (hh := hh) (bytes := bytes) (maxL := maxL) (ret := ret) ho hl hin hse hcode hy hK (by rw [hT]; exact hcB) hoB hclB hg (hsize.trans hml.symm) (argsL := As) (rest := rest) (fun sig h => hn.trans (hlen sig h)) hstack hW (by rw [hb]; exact hdg)
    (fun vm₁ hW₁ => ⟨hf.1, hf.2, hPc (T.setVm vm₁) hT hW₁⟩) with ⟨v, vm₁, ⟨U', l2, c2, s2⟩, hW₁, X', ⟨g', mk, t, L, e1, e2, hq, h1, hL, h2, h3⟩, st⟩ | ⟨q, vm₁, ⟨U', l2, c2, s2⟩, hW₁, X', ⟨g', mk, t, L, E, ce, e1, e2, hq, hce, hcv, hcl, h1, hL, h2, h3⟩, st⟩
  · dsimp only [Pt.U, Pt.locs, Pt.cells, Pt.slots] at X' e1 e2 h1 h2 h3 st
    subst h1; subst h2; subst h3
    exact Or.inl ⟨v, (T.setVm vm₁).calling g' mk (Value.ref b :: As).toArray, t, U', L, hT, X', hL, e1, e2, hq, st⟩
  · dsimp only [Pt.U, Pt.locs, Pt.cells, Pt.slots] at X' e1 e2 h1 h2 h3 st hcl
    subst h1; subst h2; subst h3
    exact Or.inr ⟨q, (T.setVm vm₁).calling g' mk (Value.ref b :: As).toArray, t, U', L, E, ce, hT, X', hL, e1, e2, hq, hce, hcv, vx_cls hW₁ hcl, st⟩
theorem vx_runSX {hh : List (Nat × Nat × Nat × Nat)} (S : CallFix p m c cc nL s args Ts own) (hM : vx_Met l y ws rm Pc Qc XC mc ms free) (cw : vx_CSW R s args own index y bytes maxL ret hh ws rm mc ms n) (hp : PreS s H Pc As)
    (hg : g.method = m) (hn : As.length = n) (hsize : g.locals.size = nL) (hstack : g.stack = As.reverse ++ rest) (hW : 2 * g.monitorRoom + (rest.map fun v => v.category).sum ≤ 8) (hdg : decode cc g.pc = .ok (.invokestatic index, 3)) (hf : cells + mc ≤ R.cells ∧ slots + ms ≤ R.slots) :
    vx_Run p l e R s m args below meth c H locs cells slots mc ms g rest (Qc As.toArray) XC free := by
  obtain ⟨⟨hrc, hrs, hfr, hlo, hws, hcw⟩, hcode, hini, hy, hlen, hl, hstt⟩ := cw
  have hK : vx_Back l R p e below s args y 3 8 (PreOf R mc ms Pc) (PostOf Qc mc ms free) (vx_Post XC mc ms free) := vx_backW (hh := hh) (bytes := bytes) (maxL := maxL) (ret := ret) hM hp.1 hrc hrs hfr hlo hws hcw (fun a' U hW => word_at hW (Or.inl (by first | rfl | simp [Cond.onTables, Cond.keeps, Cond.steady])) hini)
  obtain ⟨hx, hb, hml, ho, -⟩ := S
  intro T hT X
  rcases vx_callSX X hx (hh := hh) (bytes := bytes) (maxL := maxL) (ret := ret) ho hl hstt hini hcode hy hK hg (hsize.trans hml.symm) (argsL := As) (rest := rest) (fun sig h => hn.trans (hlen sig h)) hstack hW (by rw [hb]; exact hdg)
    (fun vm₁ hW₁ => ⟨hf.1, hf.2, hp.2 (T.setVm vm₁) hT hW₁⟩) with ⟨v, vm₁, ⟨U', l2, c2, s2⟩, hW₁, X', ⟨g', mk, t, L, e1, e2, hq, h1, hL, h2, h3⟩, st⟩ | ⟨q, vm₁, ⟨U', l2, c2, s2⟩, hW₁, X', ⟨g', mk, t, L, E, ce, e1, e2, hq, hce, hcv, hcl, h1, hL, h2, h3⟩, st⟩
  · dsimp only [Pt.U, Pt.locs, Pt.cells, Pt.slots] at X' e1 e2 h1 h2 h3 st
    subst h1; subst h2; subst h3
    exact Or.inl ⟨v, (T.setVm vm₁).calling g' mk As.toArray, t, U', L, hT, X', hL, e1, e2, hq, st⟩
  · dsimp only [Pt.U, Pt.locs, Pt.cells, Pt.slots] at X' e1 e2 h1 h2 h3 st hcl
    subst h1; subst h2; subst h3
    exact Or.inr ⟨q, (T.setVm vm₁).calling g' mk As.toArray, t, U', L, E, ce, hT, X', hL, e1, e2, hq, hce, hcv, vx_cls hW₁ hcl, st⟩
end
end VXH
theorem vx_ofWH {l : Launch} {y : MethodName} {ws ws' : List Cond} {rm : Room} {Pc : Array Value → State → Prop} {Qc : Array Value → State → Outcome → State → Prop} {XC : String → State → State → Prop} {mc ms : Nat} {free : Addr → Prop} {cc : ByteArray} {maxL : Nat} {ret : Option FieldType} {hh : List (Nat × Nat × Nat × Nat)}
    (hy : plainName y.cls = true) (hw : ws = Cond.codeWith y cc maxL ret hh :: ws')
    (body : ∀ p e s m args below meth c s₁, BodyLoose p l y (headSpec ws rm) cc maxL ret e s m args below meth c s₁ → c.maxLocals = maxL → Pc args s →
      W p l e (headSpec ws rm).room s m args below meth c s.heap [] 0 0 (vx_MQ below Qc XC args s mc ms free) (entryFrame m args maxL)) : vx_Met l y ws rm Pc Qc XC mc ms free := by
  refine MetFree.of_bodyS (code := cc) (maxLocals := maxL) (ret := ret) hy ?_ ?_
  · intro args s m h hn
    obtain ⟨m9, meth, c, hn9, h1, h2, h3, h4, -, h5, h6, -⟩ := Cond.codeWith_spec (atoms_spec (ws := ws) h _ (by rw [hw]; exact List.mem_cons_self))
    cases hn.symm.trans hn9
    exact ⟨meth, c, h1, h2, h3, h4, h5, h6⟩
  · intro p e s m args below meth c s₁ B hml hP _
    have hh0 : s₁.heap = s.heap := by rw [B.state]; rfl
    obtain ⟨t, a1, o, b1, b2, b3⟩ := body p e s m args below meth c s₁ B hml hP s₁ hh0 (Stand.of_body B)
    exact ⟨t, o, a1, b1, b2, b3⟩
/-! ===== END ===== -/
end
section

/-! ===== BEGIN printed: names, fields, word lists, decode rows ===== -/
def RX0 : String := "FourTints"
def TX0 : u_T := fun k => match k with
  | 0 => ("FourTints", "land", "[J", true)
  | 1 => ("FourTints", "there", "I", false)
  | 2 => ("FourTints", "near", "[I", true)
  | 3 => ("FourTints", "worn", "[I", true)
  | 4 => ("FourTints", "trial", "[I", true)
  | 5 => ("FourTints", "fits", "[Z", true)
  | 6 => ("FourTints", "ways", "[J", true)
  | _ => ("FourTints", "joined", "[[I", true)
def tyX0 : Nat → FieldType := fun k => match k with
  | 0 => .array .long
  | 1 => .int
  | 2 => .array .int
  | 3 => .array .int
  | 4 => .array .int
  | 5 => .array .boolean
  | 6 => .array .long
  | _ => .array (.array .int)
abbrev wsX00 : List Cond := u_ws RX0 TX0 8
theorem nmX0 : ∀ a, a < 8 → ∀ b, b < 8 → a ≠ b → (TX0 a).2.1 ≠ (TX0 b).2.1 := by decide +kernel
theorem tyX0_ok : ∀ k, k < 8 → parseFieldDescriptor (TX0 k).2.2.1 = some (tyX0 k) := by decide +kernel
abbrev cX0_init : ByteArray := prog_1_method_1_code
def yX0_init : MethodName := ⟨RX0, "<init>", "()V"⟩
abbrev cX0_paint : ByteArray := prog_1_method_2_code
def yX0_paint : MethodName := ⟨RX0, "paint", "(III)I"⟩
abbrev cX0_paintBlock : ByteArray := prog_1_method_3_code
def yX0_paintBlock : MethodName := ⟨RX0, "paintBlock", "(IIIII)I"⟩
abbrev cX0_countryAt : ByteArray := prog_1_method_4_code
def yX0_countryAt : MethodName := ⟨RX0, "countryAt", "(II)I"⟩
abbrev cX0_countries : ByteArray := prog_1_method_5_code
def yX0_countries : MethodName := ⟨RX0, "countries", "()I"⟩
abbrev cX0_area : ByteArray := prog_1_method_6_code
def yX0_area : MethodName := ⟨RX0, "area", "(I)I"⟩
abbrev cX0_pieces : ByteArray := prog_1_method_7_code
def yX0_pieces : MethodName := ⟨RX0, "pieces", "(I)I"⟩
abbrev cX0_largestPiece : ByteArray := prog_1_method_8_code
def yX0_largestPiece : MethodName := ⟨RX0, "largestPiece", "(I)I"⟩
abbrev cX0_scattered : ByteArray := prog_1_method_9_code
def yX0_scattered : MethodName := ⟨RX0, "scattered", "()I"⟩
abbrev cX0_neighbours : ByteArray := prog_1_method_10_code
def yX0_neighbours : MethodName := ⟨RX0, "neighbours", "(I)I"⟩
abbrev cX0_border : ByteArray := prog_1_method_11_code
def yX0_border : MethodName := ⟨RX0, "border", "(II)I"⟩
abbrev cX0_enclosed : ByteArray := prog_1_method_12_code
def yX0_enclosed : MethodName := ⟨RX0, "enclosed", "(I)I"⟩
abbrev cX0_allNeighbours : ByteArray := prog_1_method_13_code
def yX0_allNeighbours : MethodName := ⟨RX0, "allNeighbours", "()I"⟩
abbrev cX0_tint : ByteArray := prog_1_method_14_code
def yX0_tint : MethodName := ⟨RX0, "tint", "(II)I"⟩
abbrev cX0_tintOf : ByteArray := prog_1_method_15_code
def yX0_tintOf : MethodName := ⟨RX0, "tintOf", "(I)I"⟩
abbrev cX0_conflicts : ByteArray := prog_1_method_16_code
def yX0_conflicts : MethodName := ⟨RX0, "conflicts", "()I"⟩
abbrev cX0_isTinted : ByteArray := prog_1_method_17_code
def yX0_isTinted : MethodName := ⟨RX0, "isTinted", "()Z"⟩
abbrev cX0_leastFree : ByteArray := prog_1_method_18_code
def yX0_leastFree : MethodName := ⟨RX0, "leastFree", "(I)I"⟩
abbrev cX0_chain : ByteArray := prog_1_method_19_code
def yX0_chain : MethodName := ⟨RX0, "chain", "(II)I"⟩
abbrev cX0_exchange : ByteArray := prog_1_method_20_code
def yX0_exchange : MethodName := ⟨RX0, "exchange", "(II)I"⟩
abbrev cX0_tintInOrder : ByteArray := prog_1_method_21_code
def yX0_tintInOrder : MethodName := ⟨RX0, "tintInOrder", "(Z)I"⟩
abbrev cX0_fewestTints : ByteArray := prog_1_method_22_code
def yX0_fewestTints : MethodName := ⟨RX0, "fewestTints", "()I"⟩
abbrev cX0_tintWithFewest : ByteArray := prog_1_method_23_code
def yX0_tintWithFewest : MethodName := ⟨RX0, "tintWithFewest", "()I"⟩
abbrev cX0_tintings : ByteArray := prog_1_method_24_code
def yX0_tintings : MethodName := ⟨RX0, "tintings", "(I)J"⟩
abbrev cX0_tintingsByPairs : ByteArray := prog_1_method_25_code
def yX0_tintingsByPairs : MethodName := ⟨RX0, "tintingsByPairs", "(I)J"⟩
abbrev cX0_checkCell : ByteArray := prog_1_method_26_code
def yX0_checkCell : MethodName := ⟨RX0, "checkCell", "(II)V"⟩
abbrev cX0_checkCountry : ByteArray := prog_1_method_27_code
def yX0_checkCountry : MethodName := ⟨RX0, "checkCountry", "(I)V"⟩
abbrev cX0_checkPaint : ByteArray := prog_1_method_28_code
def yX0_checkPaint : MethodName := ⟨RX0, "checkPaint", "(I)V"⟩
abbrev cX0_checkTint : ByteArray := prog_1_method_29_code
def yX0_checkTint : MethodName := ⟨RX0, "checkTint", "(I)V"⟩
abbrev cX0_checkNumberOfTints : ByteArray := prog_1_method_30_code
def yX0_checkNumberOfTints : MethodName := ⟨RX0, "checkNumberOfTints", "(I)V"⟩
abbrev cX0_checkTinted : ByteArray := prog_1_method_31_code
def yX0_checkTinted : MethodName := ⟨RX0, "checkTinted", "(I)V"⟩
abbrev cX0_block : ByteArray := prog_1_method_32_code
def yX0_block : MethodName := ⟨RX0, "block", "(IIII)J"⟩
abbrev cX0_above : ByteArray := prog_1_method_33_code
def yX0_above : MethodName := ⟨RX0, "above", "(J)J"⟩
abbrev cX0_below : ByteArray := prog_1_method_34_code
def yX0_below : MethodName := ⟨RX0, "below", "(J)J"⟩
abbrev cX0_leftOf : ByteArray := prog_1_method_35_code
def yX0_leftOf : MethodName := ⟨RX0, "leftOf", "(J)J"⟩
abbrev cX0_rightOf : ByteArray := prog_1_method_36_code
def yX0_rightOf : MethodName := ⟨RX0, "rightOf", "(J)J"⟩
abbrev cX0_spread : ByteArray := prog_1_method_37_code
def yX0_spread : MethodName := ⟨RX0, "spread", "(J)J"⟩
abbrev cX0_reach : ByteArray := prog_1_method_38_code
def yX0_reach : MethodName := ⟨RX0, "reach", "(JJ)J"⟩
abbrev cX0_pieceIn : ByteArray := prog_1_method_39_code
def yX0_pieceIn : MethodName := ⟨RX0, "pieceIn", "(J)J"⟩
abbrev cX0_countPieces : ByteArray := prog_1_method_40_code
def yX0_countPieces : MethodName := ⟨RX0, "countPieces", "(J)I"⟩
abbrev cX0_cellsOf : ByteArray := prog_1_method_41_code
def yX0_cellsOf : MethodName := ⟨RX0, "cellsOf", "(I)J"⟩
abbrev cX0_ownerOf : ByteArray := prog_1_method_42_code
def yX0_ownerOf : MethodName := ⟨RX0, "ownerOf", "(J)I"⟩
abbrev cX0_cover : ByteArray := prog_1_method_43_code
def yX0_cover : MethodName := ⟨RX0, "cover", "(JI)V"⟩
abbrev cX0_has : ByteArray := prog_1_method_44_code
def yX0_has : MethodName := ⟨RX0, "has", "(II)Z"⟩
abbrev cX0_findNeighbours : ByteArray := prog_1_method_45_code
def yX0_findNeighbours : MethodName := ⟨RX0, "findNeighbours", "()V"⟩
abbrev cX0_thoseIn : ByteArray := prog_1_method_46_code
def yX0_thoseIn : MethodName := ⟨RX0, "thoseIn", "(J)I"⟩
abbrev cX0_withNeighbours : ByteArray := prog_1_method_47_code
def yX0_withNeighbours : MethodName := ⟨RX0, "withNeighbours", "(I)I"⟩
abbrev cX0_markSetsOfNeighbours : ByteArray := prog_1_method_48_code
def yX0_markSetsOfNeighbours : MethodName := ⟨RX0, "markSetsOfNeighbours", "()V"⟩
abbrev cX0_markSetsWithoutNeighbours : ByteArray := prog_1_method_49_code
def yX0_markSetsWithoutNeighbours : MethodName := ⟨RX0, "markSetsWithoutNeighbours", "()V"⟩
abbrev cX0_wearing : ByteArray := prog_1_method_50_code
def yX0_wearing : MethodName := ⟨RX0, "wearing", "(I)I"⟩
abbrev cX0_leastFreeBeside : ByteArray := prog_1_method_51_code
def yX0_leastFreeBeside : MethodName := ⟨RX0, "leastFreeBeside", "(I)I"⟩
abbrev cX0_giveLeastFree : ByteArray := prog_1_method_52_code
def yX0_giveLeastFree : MethodName := ⟨RX0, "giveLeastFree", "(I)I"⟩
abbrev cX0_chainOf : ByteArray := prog_1_method_53_code
def yX0_chainOf : MethodName := ⟨RX0, "chainOf", "(II)I"⟩
abbrev cX0_tryFewest : ByteArray := prog_1_method_54_code
def yX0_tryFewest : MethodName := ⟨RX0, "tryFewest", "()I"⟩
abbrev cX0_tryFrom : ByteArray := prog_1_method_55_code
def yX0_tryFrom : MethodName := ⟨RX0, "tryFrom", "(I[II[III)Z"⟩
abbrev cX0_isFreeIn : ByteArray := prog_1_method_56_code
def yX0_isFreeIn : MethodName := ⟨RX0, "isFreeIn", "([IIII)Z"⟩
abbrev cX0_shareOutOneSet : ByteArray := prog_1_method_57_code
def yX0_shareOutOneSet : MethodName := ⟨RX0, "shareOutOneSet", "()V"⟩
abbrev cX0_shareOutFrom : ByteArray := prog_1_method_58_code
def yX0_shareOutFrom : MethodName := ⟨RX0, "shareOutFrom", "(IJ)V"⟩
abbrev cX0_countByPairs : ByteArray := prog_1_method_59_code
def yX0_countByPairs : MethodName := ⟨RX0, "countByPairs", "([[IIII)J"⟩
abbrev cX0_oneToTintLast : ByteArray := prog_1_method_60_code
def yX0_oneToTintLast : MethodName := ⟨RX0, "oneToTintLast", "([II)I"⟩
abbrev cX0_areAllNeighbours : ByteArray := prog_1_method_61_code
def yX0_areAllNeighbours : MethodName := ⟨RX0, "areAllNeighbours", "([II)Z"⟩
abbrev cX0_firstWithStranger : ByteArray := prog_1_method_62_code
def yX0_firstWithStranger : MethodName := ⟨RX0, "firstWithStranger", "([II)I"⟩
abbrev cX0_firstOf : ByteArray := prog_1_method_63_code
def yX0_firstOf : MethodName := ⟨RX0, "firstOf", "(I)I"⟩
abbrev cX0_makeOne : ByteArray := prog_1_method_64_code
def yX0_makeOne : MethodName := ⟨RX0, "makeOne", "([I[III)V"⟩
def RX1 : String := "FourTintsModel"
def TX1 : u_T := fun k => match k with
  | 0 => ("FourTintsModel", "cell", "[I", true)
  | 1 => ("FourTintsModel", "tint", "[I", true)
  | 2 => ("FourTintsModel", "cells", "[J", true)
  | 3 => ("FourTintsModel", "near", "[I", true)
  | 4 => ("FourTintsModel", "there", "I", false)
  | 5 => ("FourTintsModel", "ways", "[J", true)
  | 6 => ("FourTintsModel", "more", "[J", true)
  | _ => ("FourTintsModel", "thrown", "I", false)
def tyX1 : Nat → FieldType := fun k => match k with
  | 0 => .array .int
  | 1 => .array .int
  | 2 => .array .long
  | 3 => .array .int
  | 4 => .int
  | 5 => .array .long
  | 6 => .array .long
  | _ => .int
abbrev wsX10 : List Cond := u_ws RX1 TX1 8
theorem nmX1 : ∀ a, a < 8 → ∀ b, b < 8 → a ≠ b → (TX1 a).2.1 ≠ (TX1 b).2.1 := by decide +kernel
theorem tyX1_ok : ∀ k, k < 8 → parseFieldDescriptor (TX1 k).2.2.1 = some (tyX1 k) := by decide +kernel
abbrev cX1_init : ByteArray := prog_3_method_1_code
def yX1_init : MethodName := ⟨RX1, "<init>", "()V"⟩
abbrev cX1_thrown : ByteArray := prog_3_method_2_code
def yX1_thrown : MethodName := ⟨RX1, "thrown", "()I"⟩
abbrev cX1_in : ByteArray := prog_3_method_3_code
def yX1_in : MethodName := ⟨RX1, "in", "(III)Z"⟩
abbrev cX1_goes : ByteArray := prog_3_method_4_code
def yX1_goes : MethodName := ⟨RX1, "goes", "(ZZZ)Z"⟩
abbrev cX1_told : ByteArray := prog_3_method_5_code
def yX1_told : MethodName := ⟨RX1, "told", "(I)I"⟩
abbrev cX1_isCell : ByteArray := prog_3_method_6_code
def yX1_isCell : MethodName := ⟨RX1, "isCell", "(II)Z"⟩
abbrev cX1_isCountry : ByteArray := prog_3_method_7_code
def yX1_isCountry : MethodName := ⟨RX1, "isCountry", "(I)Z"⟩
abbrev cX1_bits : ByteArray := prog_3_method_8_code
def yX1_bits : MethodName := ⟨RX1, "bits", "(J)I"⟩
abbrev cX1_spread : ByteArray := prog_3_method_9_code
def yX1_spread : MethodName := ⟨RX1, "spread", "(J)J"⟩
abbrev cX1_reach : ByteArray := prog_3_method_10_code
def yX1_reach : MethodName := ⟨RX1, "reach", "(JJ)J"⟩
abbrev cX1_looks : ByteArray := prog_3_method_11_code
def yX1_looks : MethodName := ⟨RX1, "looks", "()V"⟩
abbrev cX1_isThere : ByteArray := prog_3_method_12_code
def yX1_isThere : MethodName := ⟨RX1, "isThere", "(I)Z"⟩
abbrev cX1_paints : ByteArray := prog_3_method_13_code
def yX1_paints : MethodName := ⟨RX1, "paints", "(II)I"⟩
abbrev cX1_paint : ByteArray := prog_3_method_14_code
def yX1_paint : MethodName := ⟨RX1, "paint", "(III)I"⟩
abbrev cX1_paintBlock : ByteArray := prog_3_method_15_code
def yX1_paintBlock : MethodName := ⟨RX1, "paintBlock", "(IIIII)I"⟩
abbrev cX1_countryAt : ByteArray := prog_3_method_16_code
def yX1_countryAt : MethodName := ⟨RX1, "countryAt", "(II)I"⟩
abbrev cX1_countries : ByteArray := prog_3_method_17_code
def yX1_countries : MethodName := ⟨RX1, "countries", "()I"⟩
abbrev cX1_area : ByteArray := prog_3_method_18_code
def yX1_area : MethodName := ⟨RX1, "area", "(I)I"⟩
abbrev cX1_piece : ByteArray := prog_3_method_19_code
def yX1_piece : MethodName := ⟨RX1, "piece", "(J)J"⟩
abbrev cX1_piecesOf : ByteArray := prog_3_method_20_code
def yX1_piecesOf : MethodName := ⟨RX1, "piecesOf", "(I)I"⟩
abbrev cX1_pieces : ByteArray := prog_3_method_21_code
def yX1_pieces : MethodName := ⟨RX1, "pieces", "(I)I"⟩
abbrev cX1_largestPiece : ByteArray := prog_3_method_22_code
def yX1_largestPiece : MethodName := ⟨RX1, "largestPiece", "(I)I"⟩
abbrev cX1_scattered : ByteArray := prog_3_method_23_code
def yX1_scattered : MethodName := ⟨RX1, "scattered", "()I"⟩
abbrev cX1_neighbours : ByteArray := prog_3_method_24_code
def yX1_neighbours : MethodName := ⟨RX1, "neighbours", "(I)I"⟩
abbrev cX1_touches : ByteArray := prog_3_method_25_code
def yX1_touches : MethodName := ⟨RX1, "touches", "(JJ)I"⟩
abbrev cX1_border : ByteArray := prog_3_method_26_code
def yX1_border : MethodName := ⟨RX1, "border", "(II)I"⟩
abbrev cX1_enclosed : ByteArray := prog_3_method_27_code
def yX1_enclosed : MethodName := ⟨RX1, "enclosed", "(I)I"⟩
abbrev cX1_areNear : ByteArray := prog_3_method_28_code
def yX1_areNear : MethodName := ⟨RX1, "areNear", "(IZ)Z"⟩
abbrev cX1_allNeighbours : ByteArray := prog_3_method_29_code
def yX1_allNeighbours : MethodName := ⟨RX1, "allNeighbours", "()I"⟩
abbrev cX1_tint : ByteArray := prog_3_method_30_code
def yX1_tint : MethodName := ⟨RX1, "tint", "(II)I"⟩
abbrev cX1_tintOf : ByteArray := prog_3_method_31_code
def yX1_tintOf : MethodName := ⟨RX1, "tintOf", "(I)I"⟩
abbrev cX1_inConflict : ByteArray := prog_3_method_32_code
def yX1_inConflict : MethodName := ⟨RX1, "inConflict", "()I"⟩
abbrev cX1_conflicts : ByteArray := prog_3_method_33_code
def yX1_conflicts : MethodName := ⟨RX1, "conflicts", "()I"⟩
abbrev cX1_isTinted : ByteArray := prog_3_method_34_code
def yX1_isTinted : MethodName := ⟨RX1, "isTinted", "()Z"⟩
abbrev cX1_least : ByteArray := prog_3_method_35_code
def yX1_least : MethodName := ⟨RX1, "least", "(I)I"⟩
abbrev cX1_leastFree : ByteArray := prog_3_method_36_code
def yX1_leastFree : MethodName := ⟨RX1, "leastFree", "(I)I"⟩
abbrev cX1_isChain : ByteArray := prog_3_method_37_code
def yX1_isChain : MethodName := ⟨RX1, "isChain", "(II)Z"⟩
abbrev cX1_links : ByteArray := prog_3_method_38_code
def yX1_links : MethodName := ⟨RX1, "links", "(II)I"⟩
abbrev cX1_chain : ByteArray := prog_3_method_39_code
def yX1_chain : MethodName := ⟨RX1, "chain", "(II)I"⟩
abbrev cX1_exchange : ByteArray := prog_3_method_40_code
def yX1_exchange : MethodName := ⟨RX1, "exchange", "(II)I"⟩
abbrev cX1_tintInOrder : ByteArray := prog_3_method_41_code
def yX1_tintInOrder : MethodName := ⟨RX1, "tintInOrder", "(Z)I"⟩
abbrev cX1_begins : ByteArray := prog_3_method_42_code
def yX1_begins : MethodName := ⟨RX1, "begins", "()V"⟩
abbrev cX1_adds : ByteArray := prog_3_method_43_code
def yX1_adds : MethodName := ⟨RX1, "adds", "()V"⟩
abbrev cX1_fewest : ByteArray := prog_3_method_44_code
def yX1_fewest : MethodName := ⟨RX1, "fewest", "()I"⟩
abbrev cX1_fewestTints : ByteArray := prog_3_method_45_code
def yX1_fewestTints : MethodName := ⟨RX1, "fewestTints", "()I"⟩
abbrev cX1_isApart : ByteArray := prog_3_method_46_code
def yX1_isApart : MethodName := ⟨RX1, "isApart", "(I)Z"⟩
abbrev cX1_next : ByteArray := prog_3_method_47_code
def yX1_next : MethodName := ⟨RX1, "next", "(II)I"⟩
abbrev cX1_tintWithFewest : ByteArray := prog_3_method_48_code
def yX1_tintWithFewest : MethodName := ⟨RX1, "tintWithFewest", "()I"⟩
abbrev cX1_count : ByteArray := prog_3_method_49_code
def yX1_count : MethodName := ⟨RX1, "count", "(I)J"⟩
abbrev cX1_tintings : ByteArray := prog_3_method_50_code
def yX1_tintings : MethodName := ⟨RX1, "tintings", "(I)J"⟩
abbrev cX1_tintingsByPairs : ByteArray := prog_3_method_51_code
def yX1_tintingsByPairs : MethodName := ⟨RX1, "tintingsByPairs", "(I)J"⟩
def RJx145de : String := "java/io/Serializable"
def TJx145de : u_T := fun k => match k with
  | _ => ("", "", "", false)
def tyJx145de : Nat → FieldType := fun k => match k with
  | _ => .int
abbrev wsJx145de0 : List Cond := u_ws RJx145de TJx145de 0
theorem nmJx145de : ∀ a, a < 0 → ∀ b, b < 0 → a ≠ b → (TJx145de a).2.1 ≠ (TJx145de b).2.1 := by decide +kernel
theorem tyJx145de_ok : ∀ k, k < 0 → parseFieldDescriptor (TJx145de k).2.2.1 = some (tyJx145de k) := by decide +kernel
def RJ6 : String := "java/lang/Integer"
def TJ6 : u_T := fun k => match k with
  | _ => ("", "", "", false)
def tyJ6 : Nat → FieldType := fun k => match k with
  | _ => .int
abbrev wsJ60 : List Cond := u_ws RJ6 TJ6 0
theorem nmJ6 : ∀ a, a < 0 → ∀ b, b < 0 → a ≠ b → (TJ6 a).2.1 ≠ (TJ6 b).2.1 := by decide +kernel
theorem tyJ6_ok : ∀ k, k < 0 → parseFieldDescriptor (TJ6 k).2.2.1 = some (tyJ6 k) := by decide +kernel
abbrev cJ6_bitCount_0f7a4 : ByteArray := prog_8_method_49_code
def yJ6_bitCount_0f7a4 : MethodName := ⟨RJ6, "bitCount", "(I)I"⟩
def RJ13 : String := "java/lang/Long"
def TJ13 : u_T := fun k => match k with
  | _ => ("", "", "", false)
def tyJ13 : Nat → FieldType := fun k => match k with
  | _ => .int
abbrev wsJ130 : List Cond := u_ws RJ13 TJ13 0
theorem nmJ13 : ∀ a, a < 0 → ∀ b, b < 0 → a ≠ b → (TJ13 a).2.1 ≠ (TJ13 b).2.1 := by decide +kernel
theorem tyJ13_ok : ∀ k, k < 0 → parseFieldDescriptor (TJ13 k).2.2.1 = some (tyJ13 k) := by decide +kernel
abbrev cJ13_bitCount_95d88 : ByteArray := prog_9_method_50_code
def yJ13_bitCount_95d88 : MethodName := ⟨RJ13, "bitCount", "(J)I"⟩
def RJ9 : String := "java/lang/Math"
def TJ9 : u_T := fun k => match k with
  | _ => ("", "", "", false)
def tyJ9 : Nat → FieldType := fun k => match k with
  | _ => .int
abbrev wsJ90 : List Cond := u_ws RJ9 TJ9 0
theorem nmJ9 : ∀ a, a < 0 → ∀ b, b < 0 → a ≠ b → (TJ9 a).2.1 ≠ (TJ9 b).2.1 := by decide +kernel
theorem tyJ9_ok : ∀ k, k < 0 → parseFieldDescriptor (TJ9 k).2.2.1 = some (tyJ9 k) := by decide +kernel
abbrev cJ9_max_7cf53 : ByteArray := prog_10_method_65_code
def yJ9_max_7cf53 : MethodName := ⟨RJ9, "max", "(II)I"⟩
def RJ0 : String := "java/lang/String"
def TJ0 : u_T := fun k => match k with
  | _ => ("", "", "", false)
def tyJ0 : Nat → FieldType := fun k => match k with
  | _ => .int
abbrev wsJ00 : List Cond := u_ws RJ0 TJ0 0
theorem nmJ0 : ∀ a, a < 0 → ∀ b, b < 0 → a ≠ b → (TJ0 a).2.1 ≠ (TJ0 b).2.1 := by decide +kernel
theorem tyJ0_ok : ∀ k, k < 0 → parseFieldDescriptor (TJ0 k).2.2.1 = some (tyJ0 k) := by decide +kernel
def RJ10 : String := "java/lang/System"
def TJ10 : u_T := fun k => match k with
  | _ => ("", "", "", false)
def tyJ10 : Nat → FieldType := fun k => match k with
  | _ => .int
abbrev wsJ100 : List Cond := u_ws RJ10 TJ10 0
theorem nmJ10 : ∀ a, a < 0 → ∀ b, b < 0 → a ≠ b → (TJ10 a).2.1 ≠ (TJ10 b).2.1 := by decide +kernel
theorem tyJ10_ok : ∀ k, k < 0 → parseFieldDescriptor (TJ10 k).2.2.1 = some (tyJ10 k) := by decide +kernel
def RJ7 : String := "java/util/Arrays"
def TJ7 : u_T := fun k => match k with
  | _ => ("", "", "", false)
def tyJ7 : Nat → FieldType := fun k => match k with
  | _ => .int
abbrev wsJ70 : List Cond := u_ws RJ7 TJ7 0
theorem nmJ7 : ∀ a, a < 0 → ∀ b, b < 0 → a ≠ b → (TJ7 a).2.1 ≠ (TJ7 b).2.1 := by decide +kernel
theorem tyJ7_ok : ∀ k, k < 0 → parseFieldDescriptor (TJ7 k).2.2.1 = some (tyJ7 k) := by decide +kernel
abbrev cJ7_fill_d0a16 : ByteArray := prog_15_method_101_code
def yJ7_fill_d0a16 : MethodName := ⟨RJ7, "fill", "([JJ)V"⟩
def RL : String := "FourTintsLaw"
abbrev cL_paint : ByteArray := method_3_code
def yL_paint : MethodName := ⟨RL, "paint", "(LFourTints;III[J)I"⟩
abbrev cL_paintBlock : ByteArray := method_4_code
def yL_paintBlock : MethodName := ⟨RL, "paintBlock", "(LFourTints;IIIII[J)I"⟩
abbrev cL_countryAt : ByteArray := method_5_code
def yL_countryAt : MethodName := ⟨RL, "countryAt", "(LFourTints;II[J)I"⟩
abbrev cL_area : ByteArray := method_6_code
def yL_area : MethodName := ⟨RL, "area", "(LFourTints;I[J)I"⟩
abbrev cL_pieces : ByteArray := method_7_code
def yL_pieces : MethodName := ⟨RL, "pieces", "(LFourTints;I[J)I"⟩
abbrev cL_largestPiece : ByteArray := method_8_code
def yL_largestPiece : MethodName := ⟨RL, "largestPiece", "(LFourTints;I[J)I"⟩
abbrev cL_neighbours : ByteArray := method_9_code
def yL_neighbours : MethodName := ⟨RL, "neighbours", "(LFourTints;I[J)I"⟩
abbrev cL_border : ByteArray := method_10_code
def yL_border : MethodName := ⟨RL, "border", "(LFourTints;II[J)I"⟩
abbrev cL_enclosed : ByteArray := method_11_code
def yL_enclosed : MethodName := ⟨RL, "enclosed", "(LFourTints;I[J)I"⟩
abbrev cL_tint : ByteArray := method_12_code
def yL_tint : MethodName := ⟨RL, "tint", "(LFourTints;II[J)I"⟩
abbrev cL_tintOf : ByteArray := method_13_code
def yL_tintOf : MethodName := ⟨RL, "tintOf", "(LFourTints;I[J)I"⟩
abbrev cL_leastFree : ByteArray := method_14_code
def yL_leastFree : MethodName := ⟨RL, "leastFree", "(LFourTints;I[J)I"⟩
abbrev cL_chain : ByteArray := method_15_code
def yL_chain : MethodName := ⟨RL, "chain", "(LFourTints;II[J)I"⟩
abbrev cL_exchange : ByteArray := method_16_code
def yL_exchange : MethodName := ⟨RL, "exchange", "(LFourTints;II[J)I"⟩
abbrev cL_tintings : ByteArray := method_17_code
def yL_tintings : MethodName := ⟨RL, "tintings", "(LFourTints;I[J)I"⟩
abbrev cL_tintingsByPairs : ByteArray := method_18_code
def yL_tintingsByPairs : MethodName := ⟨RL, "tintingsByPairs", "(LFourTints;I[J)I"⟩
abbrev cL_law : ByteArray := code
def yL_law : MethodName := ⟨RL, "law", "([I)Z"⟩
def wsX0_init : List Cond := .code yX0_init cX0_init 1 none :: ([.methodLink RX0 3 objectInit, .instanceMethod objectInit, .code objectInit ⟨#[0xb1]⟩ 1 none, .arrayClass .long, .fieldLink RX0 9 "FourTints" "land" "[J", .fieldLink RX0 13 "FourTints" "there" "I", .arrayClass .int, .fieldLink RX0 17 "FourTints" "near" "[I", .fieldLink RX0 21 "FourTints" "worn" "[I", .fieldLink RX0 24 "FourTints" "trial" "[I", .arrayClass .boolean, .fieldLink RX0 27 "FourTints" "fits" "[Z", .fieldLink RX0 31 "FourTints" "ways" "[J", .classLink RX0 34 "[[I", .fieldLink RX0 36 "FourTints" "joined" "[[I"] ++ wsX00)
def wsX0_checkCell : List Cond := .code yX0_checkCell cX0_checkCell 2 none :: ([.classLink RX0 178 "java/lang/IndexOutOfBoundsException", .initialized "java/lang/IndexOutOfBoundsException"] ++ (vx_atS RX0 182 "java/lang/IndexOutOfBoundsException" ["java/lang/RuntimeException", "java/lang/Exception"]).filter goodWord)
def wsX0_checkPaint : List Cond := .code yX0_checkPaint cX0_checkPaint 1 none :: ([.classLink RX0 59 "java/lang/IllegalArgumentException", .initialized "java/lang/IllegalArgumentException"] ++ (vx_atS RX0 63 "java/lang/IllegalArgumentException" ["java/lang/RuntimeException", "java/lang/Exception"]).filter goodWord)
def wsX0_block : List Cond := .code yX0_block cX0_block 8 (some .long) :: ([])
def wsX0_ownerOf : List Cond := .code yX0_ownerOf cX0_ownerOf 4 (some .int) :: ([.fieldLink RX0 9 "FourTints" "land" "[J"] ++ wsX00)
def wsX0_above : List Cond := .code yX0_above cX0_above 2 (some .long) :: ([])
def wsX0_below : List Cond := .code yX0_below cX0_below 2 (some .long) :: ([.constantLong RX0 110 (68719476735)])
def wsX0_leftOf : List Cond := .code yX0_leftOf cX0_leftOf 2 (some .long) :: ([.constantLong RX0 196 (-1090785346)])
def wsX0_rightOf : List Cond := .code yX0_rightOf cX0_rightOf 2 (some .long) :: ([.constantLong RX0 198 (-34905131041)])
def wsX0_spread : List Cond := .code yX0_spread cX0_spread 2 (some .long) :: ([.methodLink RX0 98 yX0_above, .static yX0_above, .initialized RX0, .code yX0_above cX0_above 2 (some .long), .methodLink RX0 101 yX0_below, .static yX0_below, .code yX0_below cX0_below 2 (some .long), .constantLong RX0 110 (68719476735), .methodLink RX0 104 yX0_leftOf, .static yX0_leftOf, .code yX0_leftOf cX0_leftOf 2 (some .long), .constantLong RX0 196 (-1090785346), .methodLink RX0 107 yX0_rightOf, .static yX0_rightOf, .code yX0_rightOf cX0_rightOf 2 (some .long), .constantLong RX0 198 (-34905131041)])
def wsX0_thoseIn : List Cond := .code yX0_thoseIn cX0_thoseIn 5 (some .int) :: ([.fieldLink RX0 9 "FourTints" "land" "[J"] ++ wsX00)
def wsX0_findNeighbours_r1 : List Cond := [Cond.fieldLink RX0 13 "FourTints" "there" "I", Cond.fieldLink RX0 9 "FourTints" "land" "[J", Cond.fieldLink RX0 17 "FourTints" "near" "[I", Cond.methodLink RX0 200 yX0_spread, Cond.static yX0_spread, Cond.initialized RX0, Cond.code yX0_spread cX0_spread 2 (some .long), Cond.methodLink RX0 98 yX0_above, Cond.static yX0_above, Cond.code yX0_above cX0_above 2 (some .long), Cond.methodLink RX0 101 yX0_below, Cond.static yX0_below, Cond.code yX0_below cX0_below 2 (some .long), Cond.constantLong RX0 110 (68719476735), Cond.methodLink RX0 104 yX0_leftOf, Cond.static yX0_leftOf, Cond.code yX0_leftOf cX0_leftOf 2 (some .long), Cond.constantLong RX0 196 (-1090785346), Cond.methodLink RX0 107 yX0_rightOf, Cond.static yX0_rightOf, Cond.code yX0_rightOf cX0_rightOf 2 (some .long), Cond.constantLong RX0 198 (-34905131041), Cond.methodLink RX0 206 yX0_thoseIn, Cond.instanceMethod yX0_thoseIn]
def wsX0_findNeighbours_r2 : List Cond := [Cond.selects RX0 yX0_thoseIn yX0_thoseIn, Cond.code yX0_thoseIn cX0_thoseIn 5 (some .int)]
def wsX0_findNeighbours : List Cond := .code yX0_findNeighbours cX0_findNeighbours 2 none :: ((wsX0_findNeighbours_r1 ++ wsX0_findNeighbours_r2) ++ wsX00)
def wsX0_cover_r1 : List Cond := [Cond.fieldLink RX0 9 "FourTints" "land" "[J", Cond.constantLong RX0 70 (-1), Cond.methodLink RX0 203 yX0_findNeighbours, Cond.instanceMethod yX0_findNeighbours, Cond.selects RX0 yX0_findNeighbours yX0_findNeighbours, Cond.initialized RX0, Cond.code yX0_findNeighbours cX0_findNeighbours 2 none, Cond.fieldLink RX0 13 "FourTints" "there" "I", Cond.fieldLink RX0 17 "FourTints" "near" "[I", Cond.methodLink RX0 200 yX0_spread, Cond.static yX0_spread, Cond.code yX0_spread cX0_spread 2 (some .long), Cond.methodLink RX0 98 yX0_above, Cond.static yX0_above, Cond.code yX0_above cX0_above 2 (some .long), Cond.methodLink RX0 101 yX0_below, Cond.static yX0_below, Cond.code yX0_below cX0_below 2 (some .long), Cond.constantLong RX0 110 (68719476735), Cond.methodLink RX0 104 yX0_leftOf, Cond.static yX0_leftOf, Cond.code yX0_leftOf cX0_leftOf 2 (some .long), Cond.constantLong RX0 196 (-1090785346), Cond.methodLink RX0 107 yX0_rightOf]
def wsX0_cover_r2 : List Cond := [Cond.static yX0_rightOf, Cond.code yX0_rightOf cX0_rightOf 2 (some .long), Cond.constantLong RX0 198 (-34905131041), Cond.methodLink RX0 206 yX0_thoseIn, Cond.instanceMethod yX0_thoseIn, Cond.selects RX0 yX0_thoseIn yX0_thoseIn, Cond.code yX0_thoseIn cX0_thoseIn 5 (some .int)]
def wsX0_cover : List Cond := .code yX0_cover cX0_cover 5 none :: ((wsX0_cover_r1 ++ wsX0_cover_r2) ++ wsX00)
def wsX0_paint_r1 : List Cond := [Cond.methodLink RX0 39 yX0_checkCell, Cond.static yX0_checkCell, Cond.initialized RX0, Cond.code yX0_checkCell cX0_checkCell 2 none, Cond.classLink RX0 178 "java/lang/IndexOutOfBoundsException", Cond.initialized "java/lang/IndexOutOfBoundsException", Cond.methodLink RX0 43 yX0_checkPaint, Cond.static yX0_checkPaint, Cond.code yX0_checkPaint cX0_checkPaint 1 none, Cond.classLink RX0 59 "java/lang/IllegalArgumentException", Cond.initialized "java/lang/IllegalArgumentException", Cond.methodLink RX0 47 yX0_block, Cond.static yX0_block, Cond.code yX0_block cX0_block 8 (some .long), Cond.methodLink RX0 51 yX0_ownerOf, Cond.instanceMethod yX0_ownerOf, Cond.selects RX0 yX0_ownerOf yX0_ownerOf, Cond.code yX0_ownerOf cX0_ownerOf 4 (some .int), Cond.fieldLink RX0 9 "FourTints" "land" "[J", Cond.methodLink RX0 55 yX0_cover, Cond.instanceMethod yX0_cover, Cond.selects RX0 yX0_cover yX0_cover, Cond.code yX0_cover cX0_cover 5 none, Cond.constantLong RX0 70 (-1)]
def wsX0_paint_r2 : List Cond := [Cond.methodLink RX0 203 yX0_findNeighbours, Cond.instanceMethod yX0_findNeighbours, Cond.selects RX0 yX0_findNeighbours yX0_findNeighbours, Cond.code yX0_findNeighbours cX0_findNeighbours 2 none, Cond.fieldLink RX0 13 "FourTints" "there" "I", Cond.fieldLink RX0 17 "FourTints" "near" "[I", Cond.methodLink RX0 200 yX0_spread, Cond.static yX0_spread, Cond.code yX0_spread cX0_spread 2 (some .long), Cond.methodLink RX0 98 yX0_above, Cond.static yX0_above, Cond.code yX0_above cX0_above 2 (some .long), Cond.methodLink RX0 101 yX0_below, Cond.static yX0_below, Cond.code yX0_below cX0_below 2 (some .long), Cond.constantLong RX0 110 (68719476735), Cond.methodLink RX0 104 yX0_leftOf, Cond.static yX0_leftOf, Cond.code yX0_leftOf cX0_leftOf 2 (some .long), Cond.constantLong RX0 196 (-1090785346), Cond.methodLink RX0 107 yX0_rightOf, Cond.static yX0_rightOf, Cond.code yX0_rightOf cX0_rightOf 2 (some .long), Cond.constantLong RX0 198 (-34905131041)]
def wsX0_paint_r3 : List Cond := [Cond.methodLink RX0 206 yX0_thoseIn, Cond.instanceMethod yX0_thoseIn, Cond.selects RX0 yX0_thoseIn yX0_thoseIn, Cond.code yX0_thoseIn cX0_thoseIn 5 (some .int)]
def wsX0_paint : List Cond := .code yX0_paint cX0_paint 7 (some .int) :: ((wsX0_paint_r1 ++ (wsX0_paint_r2 ++ wsX0_paint_r3)) ++ wsX00 ++ (vx_atS RX0 182 "java/lang/IndexOutOfBoundsException" ["java/lang/RuntimeException", "java/lang/Exception"]).filter goodWord ++ (vx_atS RX0 63 "java/lang/IllegalArgumentException" ["java/lang/RuntimeException", "java/lang/Exception"]).filter goodWord)
def wsX0_cellsOf : List Cond := .code yX0_cellsOf cX0_cellsOf 5 (some .long) :: ([.fieldLink RX0 9 "FourTints" "land" "[J", .constantLong RX0 110 (68719476735), .constantLong RX0 70 (-1)] ++ wsX00)
def wsJ13_bitCount_95d88 : List Cond := .code yJ13_bitCount_95d88 cJ13_bitCount_95d88 2 (some .int) :: ([.constantLong RJ13 314 (6148914691236517205), .constantLong RJ13 316 (3689348814741910323), .constantLong RJ13 318 (1085102592571150095)])
def wsX0_paintBlock_r1 : List Cond := [Cond.classLink RX0 59 "java/lang/IllegalArgumentException", Cond.initialized "java/lang/IllegalArgumentException", Cond.constantLong RX0 70 (-1), Cond.methodLink RX0 39 yX0_checkCell, Cond.static yX0_checkCell, Cond.initialized RX0, Cond.code yX0_checkCell cX0_checkCell 2 none, Cond.classLink RX0 178 "java/lang/IndexOutOfBoundsException", Cond.initialized "java/lang/IndexOutOfBoundsException", Cond.methodLink RX0 43 yX0_checkPaint, Cond.static yX0_checkPaint, Cond.code yX0_checkPaint cX0_checkPaint 1 none, Cond.methodLink RX0 47 yX0_block, Cond.static yX0_block, Cond.code yX0_block cX0_block 8 (some .long), Cond.methodLink RX0 66 yX0_cellsOf, Cond.instanceMethod yX0_cellsOf, Cond.selects RX0 yX0_cellsOf yX0_cellsOf, Cond.code yX0_cellsOf cX0_cellsOf 5 (some .long), Cond.fieldLink RX0 9 "FourTints" "land" "[J", Cond.constantLong RX0 110 (68719476735), Cond.methodLink RX0 72 yJ13_bitCount_95d88, Cond.static yJ13_bitCount_95d88, Cond.initialized RJ13]
def wsX0_paintBlock_r2 : List Cond := [Cond.code yJ13_bitCount_95d88 cJ13_bitCount_95d88 2 (some .int), Cond.constantLong RJ13 314 (6148914691236517205), Cond.constantLong RJ13 316 (3689348814741910323), Cond.constantLong RJ13 318 (1085102592571150095), Cond.methodLink RX0 55 yX0_cover, Cond.instanceMethod yX0_cover, Cond.selects RX0 yX0_cover yX0_cover, Cond.code yX0_cover cX0_cover 5 none, Cond.methodLink RX0 203 yX0_findNeighbours, Cond.instanceMethod yX0_findNeighbours, Cond.selects RX0 yX0_findNeighbours yX0_findNeighbours, Cond.code yX0_findNeighbours cX0_findNeighbours 2 none, Cond.fieldLink RX0 13 "FourTints" "there" "I", Cond.fieldLink RX0 17 "FourTints" "near" "[I", Cond.methodLink RX0 200 yX0_spread, Cond.static yX0_spread, Cond.code yX0_spread cX0_spread 2 (some .long), Cond.methodLink RX0 98 yX0_above, Cond.static yX0_above, Cond.code yX0_above cX0_above 2 (some .long), Cond.methodLink RX0 101 yX0_below, Cond.static yX0_below, Cond.code yX0_below cX0_below 2 (some .long), Cond.methodLink RX0 104 yX0_leftOf]
def wsX0_paintBlock_r3 : List Cond := [Cond.static yX0_leftOf, Cond.code yX0_leftOf cX0_leftOf 2 (some .long), Cond.constantLong RX0 196 (-1090785346), Cond.methodLink RX0 107 yX0_rightOf, Cond.static yX0_rightOf, Cond.code yX0_rightOf cX0_rightOf 2 (some .long), Cond.constantLong RX0 198 (-34905131041), Cond.methodLink RX0 206 yX0_thoseIn, Cond.instanceMethod yX0_thoseIn, Cond.selects RX0 yX0_thoseIn yX0_thoseIn, Cond.code yX0_thoseIn cX0_thoseIn 5 (some .int)]
def wsX0_paintBlock : List Cond := .code yX0_paintBlock cX0_paintBlock 9 (some .int) :: ((wsX0_paintBlock_r1 ++ (wsX0_paintBlock_r2 ++ wsX0_paintBlock_r3)) ++ wsX00 ++ (vx_atS RX0 63 "java/lang/IllegalArgumentException" ["java/lang/RuntimeException", "java/lang/Exception"]).filter goodWord ++ (vx_atS RX0 182 "java/lang/IndexOutOfBoundsException" ["java/lang/RuntimeException", "java/lang/Exception"]).filter goodWord)
def wsX0_countryAt : List Cond := .code yX0_countryAt cX0_countryAt 3 (some .int) :: ([.methodLink RX0 39 yX0_checkCell, .static yX0_checkCell, .initialized RX0, .code yX0_checkCell cX0_checkCell 2 none, .classLink RX0 178 "java/lang/IndexOutOfBoundsException", .initialized "java/lang/IndexOutOfBoundsException", .methodLink RX0 47 yX0_block, .static yX0_block, .code yX0_block cX0_block 8 (some .long), .methodLink RX0 51 yX0_ownerOf, .instanceMethod yX0_ownerOf, .selects RX0 yX0_ownerOf yX0_ownerOf, .code yX0_ownerOf cX0_ownerOf 4 (some .int), .fieldLink RX0 9 "FourTints" "land" "[J"] ++ wsX00 ++ (vx_atS RX0 182 "java/lang/IndexOutOfBoundsException" ["java/lang/RuntimeException", "java/lang/Exception"]).filter goodWord)
def wsJ6_bitCount_0f7a4 : List Cond := .code yJ6_bitCount_0f7a4 cJ6_bitCount_0f7a4 1 (some .int) :: ([.constant RJ6 265 (1431655765), .constant RJ6 266 (858993459), .constant RJ6 267 (252645135)])
def wsX0_countries : List Cond := .code yX0_countries cX0_countries 1 (some .int) :: ([.fieldLink RX0 13 "FourTints" "there" "I", .methodLink RX0 77 yJ6_bitCount_0f7a4, .static yJ6_bitCount_0f7a4, .initialized RJ6, .code yJ6_bitCount_0f7a4 cJ6_bitCount_0f7a4 1 (some .int), .constant RJ6 265 (1431655765), .constant RJ6 266 (858993459), .constant RJ6 267 (252645135)] ++ wsX00)
def wsX0_checkCountry : List Cond := .code yX0_checkCountry cX0_checkCountry 1 none :: ([.classLink RX0 178 "java/lang/IndexOutOfBoundsException", .initialized "java/lang/IndexOutOfBoundsException"] ++ (vx_atS RX0 182 "java/lang/IndexOutOfBoundsException" ["java/lang/RuntimeException", "java/lang/Exception"]).filter goodWord)
def wsX0_area : List Cond := .code yX0_area cX0_area 2 (some .int) :: ([.fieldLink RX0 9 "FourTints" "land" "[J", .methodLink RX0 82 yX0_checkCountry, .static yX0_checkCountry, .initialized RX0, .code yX0_checkCountry cX0_checkCountry 1 none, .classLink RX0 178 "java/lang/IndexOutOfBoundsException", .initialized "java/lang/IndexOutOfBoundsException", .methodLink RX0 72 yJ13_bitCount_95d88, .static yJ13_bitCount_95d88, .initialized RJ13, .code yJ13_bitCount_95d88 cJ13_bitCount_95d88 2 (some .int), .constantLong RJ13 314 (6148914691236517205), .constantLong RJ13 316 (3689348814741910323), .constantLong RJ13 318 (1085102592571150095)] ++ wsX00 ++ (vx_atS RX0 182 "java/lang/IndexOutOfBoundsException" ["java/lang/RuntimeException", "java/lang/Exception"]).filter goodWord)
def wsX0_reach : List Cond := .code yX0_reach cX0_reach 9 (some .long) :: ([.methodLink RX0 200 yX0_spread, .static yX0_spread, .initialized RX0, .code yX0_spread cX0_spread 2 (some .long), .methodLink RX0 98 yX0_above, .static yX0_above, .code yX0_above cX0_above 2 (some .long), .methodLink RX0 101 yX0_below, .static yX0_below, .code yX0_below cX0_below 2 (some .long), .constantLong RX0 110 (68719476735), .methodLink RX0 104 yX0_leftOf, .static yX0_leftOf, .code yX0_leftOf cX0_leftOf 2 (some .long), .constantLong RX0 196 (-1090785346), .methodLink RX0 107 yX0_rightOf, .static yX0_rightOf, .code yX0_rightOf cX0_rightOf 2 (some .long), .constantLong RX0 198 (-34905131041)])
def wsX0_pieceIn : List Cond := .code yX0_pieceIn cX0_pieceIn 2 (some .long) :: ([.methodLink RX0 114 yX0_reach, .static yX0_reach, .initialized RX0, .code yX0_reach cX0_reach 9 (some .long), .methodLink RX0 200 yX0_spread, .static yX0_spread, .code yX0_spread cX0_spread 2 (some .long), .methodLink RX0 98 yX0_above, .static yX0_above, .code yX0_above cX0_above 2 (some .long), .methodLink RX0 101 yX0_below, .static yX0_below, .code yX0_below cX0_below 2 (some .long), .constantLong RX0 110 (68719476735), .methodLink RX0 104 yX0_leftOf, .static yX0_leftOf, .code yX0_leftOf cX0_leftOf 2 (some .long), .constantLong RX0 196 (-1090785346), .methodLink RX0 107 yX0_rightOf, .static yX0_rightOf, .code yX0_rightOf cX0_rightOf 2 (some .long), .constantLong RX0 198 (-34905131041)])
def wsX0_countPieces_r1 : List Cond := [Cond.constantLong RX0 70 (-1), Cond.methodLink RX0 88 yX0_pieceIn, Cond.static yX0_pieceIn, Cond.initialized RX0, Cond.code yX0_pieceIn cX0_pieceIn 2 (some .long), Cond.methodLink RX0 114 yX0_reach, Cond.static yX0_reach, Cond.code yX0_reach cX0_reach 9 (some .long), Cond.methodLink RX0 200 yX0_spread, Cond.static yX0_spread, Cond.code yX0_spread cX0_spread 2 (some .long), Cond.methodLink RX0 98 yX0_above, Cond.static yX0_above, Cond.code yX0_above cX0_above 2 (some .long), Cond.methodLink RX0 101 yX0_below, Cond.static yX0_below, Cond.code yX0_below cX0_below 2 (some .long), Cond.constantLong RX0 110 (68719476735), Cond.methodLink RX0 104 yX0_leftOf, Cond.static yX0_leftOf, Cond.code yX0_leftOf cX0_leftOf 2 (some .long), Cond.constantLong RX0 196 (-1090785346), Cond.methodLink RX0 107 yX0_rightOf, Cond.static yX0_rightOf]
def wsX0_countPieces_r2 : List Cond := [Cond.code yX0_rightOf cX0_rightOf 2 (some .long), Cond.constantLong RX0 198 (-34905131041)]
def wsX0_countPieces : List Cond := .code yX0_countPieces cX0_countPieces 5 (some .int) :: ((wsX0_countPieces_r1 ++ wsX0_countPieces_r2))
def wsX0_pieces_r1 : List Cond := [Cond.fieldLink RX0 9 "FourTints" "land" "[J", Cond.methodLink RX0 82 yX0_checkCountry, Cond.static yX0_checkCountry, Cond.initialized RX0, Cond.code yX0_checkCountry cX0_checkCountry 1 none, Cond.classLink RX0 178 "java/lang/IndexOutOfBoundsException", Cond.initialized "java/lang/IndexOutOfBoundsException", Cond.methodLink RX0 85 yX0_countPieces, Cond.static yX0_countPieces, Cond.code yX0_countPieces cX0_countPieces 5 (some .int), Cond.constantLong RX0 70 (-1), Cond.methodLink RX0 88 yX0_pieceIn, Cond.static yX0_pieceIn, Cond.code yX0_pieceIn cX0_pieceIn 2 (some .long), Cond.methodLink RX0 114 yX0_reach, Cond.static yX0_reach, Cond.code yX0_reach cX0_reach 9 (some .long), Cond.methodLink RX0 200 yX0_spread, Cond.static yX0_spread, Cond.code yX0_spread cX0_spread 2 (some .long), Cond.methodLink RX0 98 yX0_above, Cond.static yX0_above, Cond.code yX0_above cX0_above 2 (some .long), Cond.methodLink RX0 101 yX0_below]
def wsX0_pieces_r2 : List Cond := [Cond.static yX0_below, Cond.code yX0_below cX0_below 2 (some .long), Cond.constantLong RX0 110 (68719476735), Cond.methodLink RX0 104 yX0_leftOf, Cond.static yX0_leftOf, Cond.code yX0_leftOf cX0_leftOf 2 (some .long), Cond.constantLong RX0 196 (-1090785346), Cond.methodLink RX0 107 yX0_rightOf, Cond.static yX0_rightOf, Cond.code yX0_rightOf cX0_rightOf 2 (some .long), Cond.constantLong RX0 198 (-34905131041)]
def wsX0_pieces : List Cond := .code yX0_pieces cX0_pieces 2 (some .int) :: ((wsX0_pieces_r1 ++ wsX0_pieces_r2) ++ wsX00 ++ (vx_atS RX0 182 "java/lang/IndexOutOfBoundsException" ["java/lang/RuntimeException", "java/lang/Exception"]).filter goodWord)
def wsX0_largestPiece_r1 : List Cond := [Cond.fieldLink RX0 9 "FourTints" "land" "[J", Cond.methodLink RX0 92 Lib.Math.max.name, Cond.static Lib.Math.max.name, Cond.initialized "java/lang/Math", Cond.code Lib.Math.max.name Lib.Math.max.code 2 (some .int), Cond.constantLong RX0 70 (-1), Cond.methodLink RX0 82 yX0_checkCountry, Cond.static yX0_checkCountry, Cond.initialized RX0, Cond.code yX0_checkCountry cX0_checkCountry 1 none, Cond.classLink RX0 178 "java/lang/IndexOutOfBoundsException", Cond.initialized "java/lang/IndexOutOfBoundsException", Cond.methodLink RX0 88 yX0_pieceIn, Cond.static yX0_pieceIn, Cond.code yX0_pieceIn cX0_pieceIn 2 (some .long), Cond.methodLink RX0 114 yX0_reach, Cond.static yX0_reach, Cond.code yX0_reach cX0_reach 9 (some .long), Cond.methodLink RX0 200 yX0_spread, Cond.static yX0_spread, Cond.code yX0_spread cX0_spread 2 (some .long), Cond.methodLink RX0 98 yX0_above, Cond.static yX0_above, Cond.code yX0_above cX0_above 2 (some .long)]
def wsX0_largestPiece_r2 : List Cond := [Cond.methodLink RX0 101 yX0_below, Cond.static yX0_below, Cond.code yX0_below cX0_below 2 (some .long), Cond.constantLong RX0 110 (68719476735), Cond.methodLink RX0 104 yX0_leftOf, Cond.static yX0_leftOf, Cond.code yX0_leftOf cX0_leftOf 2 (some .long), Cond.constantLong RX0 196 (-1090785346), Cond.methodLink RX0 107 yX0_rightOf, Cond.static yX0_rightOf, Cond.code yX0_rightOf cX0_rightOf 2 (some .long), Cond.constantLong RX0 198 (-34905131041), Cond.methodLink RX0 72 yJ13_bitCount_95d88, Cond.static yJ13_bitCount_95d88, Cond.initialized RJ13, Cond.code yJ13_bitCount_95d88 cJ13_bitCount_95d88 2 (some .int), Cond.constantLong RJ13 314 (6148914691236517205), Cond.constantLong RJ13 316 (3689348814741910323), Cond.constantLong RJ13 318 (1085102592571150095)]
def wsX0_largestPiece : List Cond := .code yX0_largestPiece cX0_largestPiece 8 (some .int) :: ((wsX0_largestPiece_r1 ++ wsX0_largestPiece_r2) ++ wsX00 ++ (vx_atS RX0 182 "java/lang/IndexOutOfBoundsException" ["java/lang/RuntimeException", "java/lang/Exception"]).filter goodWord)
def wsX0_scattered_r1 : List Cond := [Cond.fieldLink RX0 9 "FourTints" "land" "[J", Cond.methodLink RX0 85 yX0_countPieces, Cond.static yX0_countPieces, Cond.initialized RX0, Cond.code yX0_countPieces cX0_countPieces 5 (some .int), Cond.constantLong RX0 70 (-1), Cond.methodLink RX0 88 yX0_pieceIn, Cond.static yX0_pieceIn, Cond.code yX0_pieceIn cX0_pieceIn 2 (some .long), Cond.methodLink RX0 114 yX0_reach, Cond.static yX0_reach, Cond.code yX0_reach cX0_reach 9 (some .long), Cond.methodLink RX0 200 yX0_spread, Cond.static yX0_spread, Cond.code yX0_spread cX0_spread 2 (some .long), Cond.methodLink RX0 98 yX0_above, Cond.static yX0_above, Cond.code yX0_above cX0_above 2 (some .long), Cond.methodLink RX0 101 yX0_below, Cond.static yX0_below, Cond.code yX0_below cX0_below 2 (some .long), Cond.constantLong RX0 110 (68719476735), Cond.methodLink RX0 104 yX0_leftOf, Cond.static yX0_leftOf]
def wsX0_scattered_r2 : List Cond := [Cond.code yX0_leftOf cX0_leftOf 2 (some .long), Cond.constantLong RX0 196 (-1090785346), Cond.methodLink RX0 107 yX0_rightOf, Cond.static yX0_rightOf, Cond.code yX0_rightOf cX0_rightOf 2 (some .long), Cond.constantLong RX0 198 (-34905131041)]
def wsX0_scattered : List Cond := .code yX0_scattered cX0_scattered 3 (some .int) :: ((wsX0_scattered_r1 ++ wsX0_scattered_r2) ++ wsX00)
def wsX0_neighbours : List Cond := .code yX0_neighbours cX0_neighbours 2 (some .int) :: ([.fieldLink RX0 17 "FourTints" "near" "[I", .methodLink RX0 82 yX0_checkCountry, .static yX0_checkCountry, .initialized RX0, .code yX0_checkCountry cX0_checkCountry 1 none, .classLink RX0 178 "java/lang/IndexOutOfBoundsException", .initialized "java/lang/IndexOutOfBoundsException", .methodLink RX0 77 yJ6_bitCount_0f7a4, .static yJ6_bitCount_0f7a4, .initialized RJ6, .code yJ6_bitCount_0f7a4 cJ6_bitCount_0f7a4 1 (some .int), .constant RJ6 265 (1431655765), .constant RJ6 266 (858993459), .constant RJ6 267 (252645135)] ++ wsX00 ++ (vx_atS RX0 182 "java/lang/IndexOutOfBoundsException" ["java/lang/RuntimeException", "java/lang/Exception"]).filter goodWord)
def wsX0_border_r1 : List Cond := [Cond.fieldLink RX0 9 "FourTints" "land" "[J", Cond.methodLink RX0 82 yX0_checkCountry, Cond.static yX0_checkCountry, Cond.initialized RX0, Cond.code yX0_checkCountry cX0_checkCountry 1 none, Cond.classLink RX0 178 "java/lang/IndexOutOfBoundsException", Cond.initialized "java/lang/IndexOutOfBoundsException", Cond.methodLink RX0 98 yX0_above, Cond.static yX0_above, Cond.code yX0_above cX0_above 2 (some .long), Cond.methodLink RX0 72 yJ13_bitCount_95d88, Cond.static yJ13_bitCount_95d88, Cond.initialized RJ13, Cond.code yJ13_bitCount_95d88 cJ13_bitCount_95d88 2 (some .int), Cond.constantLong RJ13 314 (6148914691236517205), Cond.constantLong RJ13 316 (3689348814741910323), Cond.constantLong RJ13 318 (1085102592571150095), Cond.methodLink RX0 101 yX0_below, Cond.static yX0_below, Cond.code yX0_below cX0_below 2 (some .long), Cond.constantLong RX0 110 (68719476735), Cond.methodLink RX0 104 yX0_leftOf, Cond.static yX0_leftOf, Cond.code yX0_leftOf cX0_leftOf 2 (some .long)]
def wsX0_border_r2 : List Cond := [Cond.constantLong RX0 196 (-1090785346), Cond.methodLink RX0 107 yX0_rightOf, Cond.static yX0_rightOf, Cond.code yX0_rightOf cX0_rightOf 2 (some .long), Cond.constantLong RX0 198 (-34905131041)]
def wsX0_border : List Cond := .code yX0_border cX0_border 7 (some .int) :: ((wsX0_border_r1 ++ wsX0_border_r2) ++ wsX00 ++ (vx_atS RX0 182 "java/lang/IndexOutOfBoundsException" ["java/lang/RuntimeException", "java/lang/Exception"]).filter goodWord)
def wsX0_enclosed_r1 : List Cond := [Cond.constantLong RX0 110 (68719476735), Cond.fieldLink RX0 9 "FourTints" "land" "[J", Cond.constantLong RX0 70 (-1), Cond.constantLong RX0 112 (68208171135), Cond.methodLink RX0 82 yX0_checkCountry, Cond.static yX0_checkCountry, Cond.initialized RX0, Cond.code yX0_checkCountry cX0_checkCountry 1 none, Cond.classLink RX0 178 "java/lang/IndexOutOfBoundsException", Cond.initialized "java/lang/IndexOutOfBoundsException", Cond.methodLink RX0 114 yX0_reach, Cond.static yX0_reach, Cond.code yX0_reach cX0_reach 9 (some .long), Cond.methodLink RX0 200 yX0_spread, Cond.static yX0_spread, Cond.code yX0_spread cX0_spread 2 (some .long), Cond.methodLink RX0 98 yX0_above, Cond.static yX0_above, Cond.code yX0_above cX0_above 2 (some .long), Cond.methodLink RX0 101 yX0_below, Cond.static yX0_below, Cond.code yX0_below cX0_below 2 (some .long), Cond.methodLink RX0 104 yX0_leftOf, Cond.static yX0_leftOf]
def wsX0_enclosed_r2 : List Cond := [Cond.code yX0_leftOf cX0_leftOf 2 (some .long), Cond.constantLong RX0 196 (-1090785346), Cond.methodLink RX0 107 yX0_rightOf, Cond.static yX0_rightOf, Cond.code yX0_rightOf cX0_rightOf 2 (some .long), Cond.constantLong RX0 198 (-34905131041), Cond.methodLink RX0 72 yJ13_bitCount_95d88, Cond.static yJ13_bitCount_95d88, Cond.initialized RJ13, Cond.code yJ13_bitCount_95d88 cJ13_bitCount_95d88 2 (some .int), Cond.constantLong RJ13 314 (6148914691236517205), Cond.constantLong RJ13 316 (3689348814741910323), Cond.constantLong RJ13 318 (1085102592571150095)]
def wsX0_enclosed : List Cond := .code yX0_enclosed cX0_enclosed 6 (some .int) :: ((wsX0_enclosed_r1 ++ wsX0_enclosed_r2) ++ wsX00 ++ (vx_atS RX0 182 "java/lang/IndexOutOfBoundsException" ["java/lang/RuntimeException", "java/lang/Exception"]).filter goodWord)
def wsX0_markSetsOfNeighbours : List Cond := .code yX0_markSetsOfNeighbours cX0_markSetsOfNeighbours 3 none :: ([.fieldLink RX0 27 "FourTints" "fits" "[Z", .fieldLink RX0 17 "FourTints" "near" "[I"] ++ wsX00)
def wsX0_allNeighbours : List Cond := .code yX0_allNeighbours cX0_allNeighbours 3 (some .int) :: ([.fieldLink RX0 27 "FourTints" "fits" "[Z", .fieldLink RX0 13 "FourTints" "there" "I", .methodLink RX0 92 Lib.Math.max.name, .static Lib.Math.max.name, .initialized "java/lang/Math", .code Lib.Math.max.name Lib.Math.max.code 2 (some .int), .methodLink RX0 118 yX0_markSetsOfNeighbours, .instanceMethod yX0_markSetsOfNeighbours, .selects RX0 yX0_markSetsOfNeighbours yX0_markSetsOfNeighbours, .initialized RX0, .code yX0_markSetsOfNeighbours cX0_markSetsOfNeighbours 3 none, .fieldLink RX0 17 "FourTints" "near" "[I", .methodLink RX0 77 yJ6_bitCount_0f7a4, .static yJ6_bitCount_0f7a4, .initialized RJ6, .code yJ6_bitCount_0f7a4 cJ6_bitCount_0f7a4 1 (some .int), .constant RJ6 265 (1431655765), .constant RJ6 266 (858993459), .constant RJ6 267 (252645135)] ++ wsX00)
def wsX0_checkTint : List Cond := .code yX0_checkTint cX0_checkTint 1 none :: ([.classLink RX0 59 "java/lang/IllegalArgumentException", .initialized "java/lang/IllegalArgumentException"] ++ (vx_atS RX0 63 "java/lang/IllegalArgumentException" ["java/lang/RuntimeException", "java/lang/Exception"]).filter goodWord)
def wsX0_tint : List Cond := .code yX0_tint cX0_tint 4 (some .int) :: ([.fieldLink RX0 21 "FourTints" "worn" "[I", .methodLink RX0 82 yX0_checkCountry, .static yX0_checkCountry, .initialized RX0, .code yX0_checkCountry cX0_checkCountry 1 none, .classLink RX0 178 "java/lang/IndexOutOfBoundsException", .initialized "java/lang/IndexOutOfBoundsException", .methodLink RX0 121 yX0_checkTint, .static yX0_checkTint, .code yX0_checkTint cX0_checkTint 1 none, .classLink RX0 59 "java/lang/IllegalArgumentException", .initialized "java/lang/IllegalArgumentException"] ++ wsX00 ++ (vx_atS RX0 182 "java/lang/IndexOutOfBoundsException" ["java/lang/RuntimeException", "java/lang/Exception"]).filter goodWord ++ (vx_atS RX0 63 "java/lang/IllegalArgumentException" ["java/lang/RuntimeException", "java/lang/Exception"]).filter goodWord)
def wsX0_tintOf : List Cond := .code yX0_tintOf cX0_tintOf 2 (some .int) :: ([.fieldLink RX0 21 "FourTints" "worn" "[I", .methodLink RX0 82 yX0_checkCountry, .static yX0_checkCountry, .initialized RX0, .code yX0_checkCountry cX0_checkCountry 1 none, .classLink RX0 178 "java/lang/IndexOutOfBoundsException", .initialized "java/lang/IndexOutOfBoundsException"] ++ wsX00 ++ (vx_atS RX0 182 "java/lang/IndexOutOfBoundsException" ["java/lang/RuntimeException", "java/lang/Exception"]).filter goodWord)
def wsX0_wearing : List Cond := .code yX0_wearing cX0_wearing 4 (some .int) :: ([.fieldLink RX0 21 "FourTints" "worn" "[I"] ++ wsX00)
def wsX0_conflicts : List Cond := .code yX0_conflicts cX0_conflicts 3 (some .int) :: ([.fieldLink RX0 21 "FourTints" "worn" "[I", .fieldLink RX0 17 "FourTints" "near" "[I", .methodLink RX0 124 yX0_wearing, .instanceMethod yX0_wearing, .selects RX0 yX0_wearing yX0_wearing, .initialized RX0, .code yX0_wearing cX0_wearing 4 (some .int), .methodLink RX0 77 yJ6_bitCount_0f7a4, .static yJ6_bitCount_0f7a4, .initialized RJ6, .code yJ6_bitCount_0f7a4 cJ6_bitCount_0f7a4 1 (some .int), .constant RJ6 265 (1431655765), .constant RJ6 266 (858993459), .constant RJ6 267 (252645135)] ++ wsX00)
def wsX0_isTinted : List Cond := .code yX0_isTinted cX0_isTinted 1 (some .boolean) :: ([.fieldLink RX0 13 "FourTints" "there" "I", .methodLink RX0 124 yX0_wearing, .instanceMethod yX0_wearing, .selects RX0 yX0_wearing yX0_wearing, .initialized RX0, .code yX0_wearing cX0_wearing 4 (some .int), .fieldLink RX0 21 "FourTints" "worn" "[I", .methodLink RX0 127 yX0_conflicts, .instanceMethod yX0_conflicts, .selects RX0 yX0_conflicts yX0_conflicts, .code yX0_conflicts cX0_conflicts 3 (some .int), .fieldLink RX0 17 "FourTints" "near" "[I", .methodLink RX0 77 yJ6_bitCount_0f7a4, .static yJ6_bitCount_0f7a4, .initialized RJ6, .code yJ6_bitCount_0f7a4 cJ6_bitCount_0f7a4 1 (some .int), .constant RJ6 265 (1431655765), .constant RJ6 266 (858993459), .constant RJ6 267 (252645135)] ++ wsX00)
def wsX0_leastFreeBeside : List Cond := .code yX0_leastFreeBeside cX0_leastFreeBeside 3 (some .int) :: ([.methodLink RX0 124 yX0_wearing, .instanceMethod yX0_wearing, .selects RX0 yX0_wearing yX0_wearing, .initialized RX0, .code yX0_wearing cX0_wearing 4 (some .int), .fieldLink RX0 21 "FourTints" "worn" "[I"] ++ wsX00)
def wsX0_leastFree : List Cond := .code yX0_leastFree cX0_leastFree 2 (some .int) :: ([.fieldLink RX0 17 "FourTints" "near" "[I", .methodLink RX0 82 yX0_checkCountry, .static yX0_checkCountry, .initialized RX0, .code yX0_checkCountry cX0_checkCountry 1 none, .classLink RX0 178 "java/lang/IndexOutOfBoundsException", .initialized "java/lang/IndexOutOfBoundsException", .methodLink RX0 131 yX0_leastFreeBeside, .instanceMethod yX0_leastFreeBeside, .selects RX0 yX0_leastFreeBeside yX0_leastFreeBeside, .code yX0_leastFreeBeside cX0_leastFreeBeside 3 (some .int), .methodLink RX0 124 yX0_wearing, .instanceMethod yX0_wearing, .selects RX0 yX0_wearing yX0_wearing, .code yX0_wearing cX0_wearing 4 (some .int), .fieldLink RX0 21 "FourTints" "worn" "[I"] ++ wsX00 ++ (vx_atS RX0 182 "java/lang/IndexOutOfBoundsException" ["java/lang/RuntimeException", "java/lang/Exception"]).filter goodWord)
def wsX0_has : List Cond := .code yX0_has cX0_has 2 (some .boolean) :: ([])
def wsX0_checkTinted : List Cond := .code yX0_checkTinted cX0_checkTinted 2 none :: ([.classLink RX0 191 "java/lang/IllegalStateException", .initialized "java/lang/IllegalStateException", .fieldLink RX0 13 "FourTints" "there" "I", .fieldLink RX0 21 "FourTints" "worn" "[I", .methodLink RX0 140 yX0_has, .static yX0_has, .initialized RX0, .code yX0_has cX0_has 2 (some .boolean)] ++ wsX00 ++ (vx_atS RX0 195 "java/lang/IllegalStateException" ["java/lang/RuntimeException", "java/lang/Exception"]).filter goodWord)
def wsX0_chainOf : List Cond := .code yX0_chainOf cX0_chainOf 8 (some .int) :: ([.fieldLink RX0 13 "FourTints" "there" "I", .fieldLink RX0 21 "FourTints" "worn" "[I", .fieldLink RX0 17 "FourTints" "near" "[I", .methodLink RX0 124 yX0_wearing, .instanceMethod yX0_wearing, .selects RX0 yX0_wearing yX0_wearing, .initialized RX0, .code yX0_wearing cX0_wearing 4 (some .int), .methodLink RX0 140 yX0_has, .static yX0_has, .code yX0_has cX0_has 2 (some .boolean)] ++ wsX00)
def wsX0_chain_r1 : List Cond := [Cond.methodLink RX0 82 yX0_checkCountry, Cond.static yX0_checkCountry, Cond.initialized RX0, Cond.code yX0_checkCountry cX0_checkCountry 1 none, Cond.classLink RX0 178 "java/lang/IndexOutOfBoundsException", Cond.initialized "java/lang/IndexOutOfBoundsException", Cond.methodLink RX0 121 yX0_checkTint, Cond.static yX0_checkTint, Cond.code yX0_checkTint cX0_checkTint 1 none, Cond.classLink RX0 59 "java/lang/IllegalArgumentException", Cond.initialized "java/lang/IllegalArgumentException", Cond.methodLink RX0 134 yX0_checkTinted, Cond.instanceMethod yX0_checkTinted, Cond.selects RX0 yX0_checkTinted yX0_checkTinted, Cond.code yX0_checkTinted cX0_checkTinted 2 none, Cond.classLink RX0 191 "java/lang/IllegalStateException", Cond.initialized "java/lang/IllegalStateException", Cond.fieldLink RX0 13 "FourTints" "there" "I", Cond.fieldLink RX0 21 "FourTints" "worn" "[I", Cond.methodLink RX0 140 yX0_has, Cond.static yX0_has, Cond.code yX0_has cX0_has 2 (some .boolean), Cond.methodLink RX0 137 yX0_chainOf, Cond.instanceMethod yX0_chainOf]
def wsX0_chain_r2 : List Cond := [Cond.selects RX0 yX0_chainOf yX0_chainOf, Cond.code yX0_chainOf cX0_chainOf 8 (some .int), Cond.fieldLink RX0 17 "FourTints" "near" "[I", Cond.methodLink RX0 124 yX0_wearing, Cond.instanceMethod yX0_wearing, Cond.selects RX0 yX0_wearing yX0_wearing, Cond.code yX0_wearing cX0_wearing 4 (some .int), Cond.methodLink RX0 77 yJ6_bitCount_0f7a4, Cond.static yJ6_bitCount_0f7a4, Cond.initialized RJ6, Cond.code yJ6_bitCount_0f7a4 cJ6_bitCount_0f7a4 1 (some .int), Cond.constant RJ6 265 (1431655765), Cond.constant RJ6 266 (858993459), Cond.constant RJ6 267 (252645135)]
def wsX0_chain : List Cond := .code yX0_chain cX0_chain 3 (some .int) :: ((wsX0_chain_r1 ++ wsX0_chain_r2) ++ wsX00 ++ (vx_atS RX0 182 "java/lang/IndexOutOfBoundsException" ["java/lang/RuntimeException", "java/lang/Exception"]).filter goodWord ++ (vx_atS RX0 63 "java/lang/IllegalArgumentException" ["java/lang/RuntimeException", "java/lang/Exception"]).filter goodWord ++ (vx_atS RX0 195 "java/lang/IllegalStateException" ["java/lang/RuntimeException", "java/lang/Exception"]).filter goodWord)
def wsX0_exchange_r1 : List Cond := [Cond.fieldLink RX0 21 "FourTints" "worn" "[I", Cond.methodLink RX0 82 yX0_checkCountry, Cond.static yX0_checkCountry, Cond.initialized RX0, Cond.code yX0_checkCountry cX0_checkCountry 1 none, Cond.classLink RX0 178 "java/lang/IndexOutOfBoundsException", Cond.initialized "java/lang/IndexOutOfBoundsException", Cond.methodLink RX0 121 yX0_checkTint, Cond.static yX0_checkTint, Cond.code yX0_checkTint cX0_checkTint 1 none, Cond.classLink RX0 59 "java/lang/IllegalArgumentException", Cond.initialized "java/lang/IllegalArgumentException", Cond.methodLink RX0 134 yX0_checkTinted, Cond.instanceMethod yX0_checkTinted, Cond.selects RX0 yX0_checkTinted yX0_checkTinted, Cond.code yX0_checkTinted cX0_checkTinted 2 none, Cond.classLink RX0 191 "java/lang/IllegalStateException", Cond.initialized "java/lang/IllegalStateException", Cond.fieldLink RX0 13 "FourTints" "there" "I", Cond.methodLink RX0 140 yX0_has, Cond.static yX0_has, Cond.code yX0_has cX0_has 2 (some .boolean), Cond.methodLink RX0 137 yX0_chainOf, Cond.instanceMethod yX0_chainOf]
def wsX0_exchange_r2 : List Cond := [Cond.selects RX0 yX0_chainOf yX0_chainOf, Cond.code yX0_chainOf cX0_chainOf 8 (some .int), Cond.fieldLink RX0 17 "FourTints" "near" "[I", Cond.methodLink RX0 124 yX0_wearing, Cond.instanceMethod yX0_wearing, Cond.selects RX0 yX0_wearing yX0_wearing, Cond.code yX0_wearing cX0_wearing 4 (some .int), Cond.methodLink RX0 77 yJ6_bitCount_0f7a4, Cond.static yJ6_bitCount_0f7a4, Cond.initialized RJ6, Cond.code yJ6_bitCount_0f7a4 cJ6_bitCount_0f7a4 1 (some .int), Cond.constant RJ6 265 (1431655765), Cond.constant RJ6 266 (858993459), Cond.constant RJ6 267 (252645135)]
def wsX0_exchange : List Cond := .code yX0_exchange cX0_exchange 6 (some .int) :: ((wsX0_exchange_r1 ++ wsX0_exchange_r2) ++ wsX00 ++ (vx_atS RX0 182 "java/lang/IndexOutOfBoundsException" ["java/lang/RuntimeException", "java/lang/Exception"]).filter goodWord ++ (vx_atS RX0 63 "java/lang/IllegalArgumentException" ["java/lang/RuntimeException", "java/lang/Exception"]).filter goodWord ++ (vx_atS RX0 195 "java/lang/IllegalStateException" ["java/lang/RuntimeException", "java/lang/Exception"]).filter goodWord)
def wsX0_giveLeastFree : List Cond := .code yX0_giveLeastFree cX0_giveLeastFree 4 (some .int) :: ([.fieldLink RX0 21 "FourTints" "worn" "[I", .fieldLink RX0 17 "FourTints" "near" "[I", .methodLink RX0 92 Lib.Math.max.name, .static Lib.Math.max.name, .initialized "java/lang/Math", .code Lib.Math.max.name Lib.Math.max.code 2 (some .int), .methodLink RX0 140 yX0_has, .static yX0_has, .initialized RX0, .code yX0_has cX0_has 2 (some .boolean), .methodLink RX0 131 yX0_leastFreeBeside, .instanceMethod yX0_leastFreeBeside, .selects RX0 yX0_leastFreeBeside yX0_leastFreeBeside, .code yX0_leastFreeBeside cX0_leastFreeBeside 3 (some .int), .methodLink RX0 124 yX0_wearing, .instanceMethod yX0_wearing, .selects RX0 yX0_wearing yX0_wearing, .code yX0_wearing cX0_wearing 4 (some .int)] ++ wsX00)
def wsX0_withNeighbours : List Cond := .code yX0_withNeighbours cX0_withNeighbours 4 (some .int) :: ([.fieldLink RX0 13 "FourTints" "there" "I", .fieldLink RX0 17 "FourTints" "near" "[I", .methodLink RX0 140 yX0_has, .static yX0_has, .initialized RX0, .code yX0_has cX0_has 2 (some .boolean), .methodLink RX0 77 yJ6_bitCount_0f7a4, .static yJ6_bitCount_0f7a4, .initialized RJ6, .code yJ6_bitCount_0f7a4 cJ6_bitCount_0f7a4 1 (some .int), .constant RJ6 265 (1431655765), .constant RJ6 266 (858993459), .constant RJ6 267 (252645135)] ++ wsX00)
def wsX0_tintInOrder_r1 : List Cond := [Cond.fieldLink RX0 13 "FourTints" "there" "I", Cond.fieldLink RX0 21 "FourTints" "worn" "[I", Cond.methodLink RX0 92 Lib.Math.max.name, Cond.static Lib.Math.max.name, Cond.initialized "java/lang/Math", Cond.code Lib.Math.max.name Lib.Math.max.code 2 (some .int), Cond.methodLink RX0 140 yX0_has, Cond.static yX0_has, Cond.initialized RX0, Cond.code yX0_has cX0_has 2 (some .boolean), Cond.methodLink RX0 144 yX0_giveLeastFree, Cond.instanceMethod yX0_giveLeastFree, Cond.selects RX0 yX0_giveLeastFree yX0_giveLeastFree, Cond.code yX0_giveLeastFree cX0_giveLeastFree 4 (some .int), Cond.fieldLink RX0 17 "FourTints" "near" "[I", Cond.methodLink RX0 131 yX0_leastFreeBeside, Cond.instanceMethod yX0_leastFreeBeside, Cond.selects RX0 yX0_leastFreeBeside yX0_leastFreeBeside, Cond.code yX0_leastFreeBeside cX0_leastFreeBeside 3 (some .int), Cond.methodLink RX0 124 yX0_wearing, Cond.instanceMethod yX0_wearing, Cond.selects RX0 yX0_wearing yX0_wearing, Cond.code yX0_wearing cX0_wearing 4 (some .int), Cond.methodLink RX0 147 yX0_withNeighbours]
def wsX0_tintInOrder_r2 : List Cond := [Cond.instanceMethod yX0_withNeighbours, Cond.selects RX0 yX0_withNeighbours yX0_withNeighbours, Cond.code yX0_withNeighbours cX0_withNeighbours 4 (some .int), Cond.methodLink RX0 77 yJ6_bitCount_0f7a4, Cond.static yJ6_bitCount_0f7a4, Cond.initialized RJ6, Cond.code yJ6_bitCount_0f7a4 cJ6_bitCount_0f7a4 1 (some .int), Cond.constant RJ6 265 (1431655765), Cond.constant RJ6 266 (858993459), Cond.constant RJ6 267 (252645135)]
def wsX0_tintInOrder : List Cond := .code yX0_tintInOrder cX0_tintInOrder 4 (some .int) :: ((wsX0_tintInOrder_r1 ++ wsX0_tintInOrder_r2) ++ wsX00)
def wsX0_isFreeIn : List Cond := .code yX0_isFreeIn cX0_isFreeIn 5 (some .boolean) :: ([.methodLink RX0 140 yX0_has, .static yX0_has, .initialized RX0, .code yX0_has cX0_has 2 (some .boolean)])
def wsX0_tryFrom : List Cond := .code yX0_tryFrom cX0_tryFrom 7 (some .boolean) :: ([.methodLink RX0 92 Lib.Math.max.name, .static Lib.Math.max.name, .initialized "java/lang/Math", .code Lib.Math.max.name Lib.Math.max.code 2 (some .int), .methodLink RX0 140 yX0_has, .static yX0_has, .initialized RX0, .code yX0_has cX0_has 2 (some .boolean), .methodLink RX0 209 yX0_tryFrom, .static yX0_tryFrom, .methodLink RX0 213 yX0_isFreeIn, .static yX0_isFreeIn, .code yX0_isFreeIn cX0_isFreeIn 5 (some .boolean)])
def wsX0_tryFewest : List Cond := .code yX0_tryFewest cX0_tryFewest 2 (some .int) :: ([.fieldLink RX0 17 "FourTints" "near" "[I", .fieldLink RX0 13 "FourTints" "there" "I", .fieldLink RX0 24 "FourTints" "trial" "[I", .methodLink RX0 209 yX0_tryFrom, .static yX0_tryFrom, .initialized RX0, .code yX0_tryFrom cX0_tryFrom 7 (some .boolean), .methodLink RX0 92 Lib.Math.max.name, .static Lib.Math.max.name, .initialized "java/lang/Math", .code Lib.Math.max.name Lib.Math.max.code 2 (some .int), .methodLink RX0 140 yX0_has, .static yX0_has, .code yX0_has cX0_has 2 (some .boolean), .methodLink RX0 213 yX0_isFreeIn, .static yX0_isFreeIn, .code yX0_isFreeIn cX0_isFreeIn 5 (some .boolean)] ++ wsX00)
def wsX0_fewestTints : List Cond := .code yX0_fewestTints cX0_fewestTints 1 (some .int) :: ([.methodLink RX0 150 yX0_tryFewest, .instanceMethod yX0_tryFewest, .selects RX0 yX0_tryFewest yX0_tryFewest, .initialized RX0, .code yX0_tryFewest cX0_tryFewest 2 (some .int), .fieldLink RX0 17 "FourTints" "near" "[I", .fieldLink RX0 13 "FourTints" "there" "I", .fieldLink RX0 24 "FourTints" "trial" "[I", .methodLink RX0 209 yX0_tryFrom, .static yX0_tryFrom, .code yX0_tryFrom cX0_tryFrom 7 (some .boolean), .methodLink RX0 92 Lib.Math.max.name, .static Lib.Math.max.name, .initialized "java/lang/Math", .code Lib.Math.max.name Lib.Math.max.code 2 (some .int), .methodLink RX0 140 yX0_has, .static yX0_has, .code yX0_has cX0_has 2 (some .boolean), .methodLink RX0 213 yX0_isFreeIn, .static yX0_isFreeIn, .code yX0_isFreeIn cX0_isFreeIn 5 (some .boolean)] ++ wsX00)
def wsX0_tintWithFewest : List Cond := .code yX0_tintWithFewest cX0_tintWithFewest 3 (some .int) :: ([.fieldLink RX0 13 "FourTints" "there" "I", .fieldLink RX0 21 "FourTints" "worn" "[I", .fieldLink RX0 24 "FourTints" "trial" "[I", .methodLink RX0 150 yX0_tryFewest, .instanceMethod yX0_tryFewest, .selects RX0 yX0_tryFewest yX0_tryFewest, .initialized RX0, .code yX0_tryFewest cX0_tryFewest 2 (some .int), .fieldLink RX0 17 "FourTints" "near" "[I", .methodLink RX0 209 yX0_tryFrom, .static yX0_tryFrom, .code yX0_tryFrom cX0_tryFrom 7 (some .boolean), .methodLink RX0 92 Lib.Math.max.name, .static Lib.Math.max.name, .initialized "java/lang/Math", .code Lib.Math.max.name Lib.Math.max.code 2 (some .int), .methodLink RX0 140 yX0_has, .static yX0_has, .code yX0_has cX0_has 2 (some .boolean), .methodLink RX0 213 yX0_isFreeIn, .static yX0_isFreeIn, .code yX0_isFreeIn cX0_isFreeIn 5 (some .boolean)] ++ wsX00)
def wsX0_checkNumberOfTints : List Cond := .code yX0_checkNumberOfTints cX0_checkNumberOfTints 1 none :: ([.classLink RX0 59 "java/lang/IllegalArgumentException", .initialized "java/lang/IllegalArgumentException"] ++ (vx_atS RX0 63 "java/lang/IllegalArgumentException" ["java/lang/RuntimeException", "java/lang/Exception"]).filter goodWord)
def wsX0_markSetsWithoutNeighbours : List Cond := .code yX0_markSetsWithoutNeighbours cX0_markSetsWithoutNeighbours 3 none :: ([.fieldLink RX0 27 "FourTints" "fits" "[Z", .fieldLink RX0 17 "FourTints" "near" "[I"] ++ wsX00)
def wsJ7_fill_d0a16 : List Cond := .code yJ7_fill_d0a16 cJ7_fill_d0a16 5 none :: ([])
def wsX0_shareOutFrom : List Cond := .code yX0_shareOutFrom cX0_shareOutFrom 8 none :: ([.fieldLink RX0 27 "FourTints" "fits" "[Z", .fieldLink RX0 31 "FourTints" "ways" "[J"] ++ wsX00)
def wsX0_shareOutOneSet : List Cond := .code yX0_shareOutOneSet cX0_shareOutOneSet 4 none :: ([.fieldLink RX0 31 "FourTints" "ways" "[J", .methodLink RX0 217 yX0_shareOutFrom, .instanceMethod yX0_shareOutFrom, .selects RX0 yX0_shareOutFrom yX0_shareOutFrom, .initialized RX0, .code yX0_shareOutFrom cX0_shareOutFrom 8 none, .fieldLink RX0 27 "FourTints" "fits" "[Z"] ++ wsX00)
def wsX0_tintings_r1 : List Cond := [Cond.fieldLink RX0 31 "FourTints" "ways" "[J", Cond.fieldLink RX0 13 "FourTints" "there" "I", Cond.methodLink RX0 153 yX0_checkNumberOfTints, Cond.static yX0_checkNumberOfTints, Cond.initialized RX0, Cond.code yX0_checkNumberOfTints cX0_checkNumberOfTints 1 none, Cond.classLink RX0 59 "java/lang/IllegalArgumentException", Cond.initialized "java/lang/IllegalArgumentException", Cond.methodLink RX0 156 yX0_markSetsWithoutNeighbours, Cond.instanceMethod yX0_markSetsWithoutNeighbours, Cond.selects RX0 yX0_markSetsWithoutNeighbours yX0_markSetsWithoutNeighbours, Cond.code yX0_markSetsWithoutNeighbours cX0_markSetsWithoutNeighbours 3 none, Cond.fieldLink RX0 27 "FourTints" "fits" "[Z", Cond.fieldLink RX0 17 "FourTints" "near" "[I", Cond.methodLink RX0 159 yJ7_fill_d0a16, Cond.static yJ7_fill_d0a16, Cond.initialized RJ7, Cond.code yJ7_fill_d0a16 cJ7_fill_d0a16 5 none, Cond.methodLink RX0 165 yX0_shareOutOneSet, Cond.instanceMethod yX0_shareOutOneSet, Cond.selects RX0 yX0_shareOutOneSet yX0_shareOutOneSet, Cond.code yX0_shareOutOneSet cX0_shareOutOneSet 4 none, Cond.methodLink RX0 217 yX0_shareOutFrom, Cond.instanceMethod yX0_shareOutFrom]
def wsX0_tintings_r2 : List Cond := [Cond.selects RX0 yX0_shareOutFrom yX0_shareOutFrom, Cond.code yX0_shareOutFrom cX0_shareOutFrom 8 none]
def wsX0_tintings : List Cond := .code yX0_tintings cX0_tintings 7 (some .long) :: ((wsX0_tintings_r1 ++ wsX0_tintings_r2) ++ wsX00 ++ (vx_atS RX0 63 "java/lang/IllegalArgumentException" ["java/lang/RuntimeException", "java/lang/Exception"]).filter goodWord)
def wsX0_areAllNeighbours : List Cond := .code yX0_areAllNeighbours cX0_areAllNeighbours 3 (some .boolean) :: ([.methodLink RX0 140 yX0_has, .static yX0_has, .initialized RX0, .code yX0_has cX0_has 2 (some .boolean)])
def wsX0_oneToTintLast : List Cond := .code yX0_oneToTintLast cX0_oneToTintLast 3 (some .int) :: ([.methodLink RX0 140 yX0_has, .static yX0_has, .initialized RX0, .code yX0_has cX0_has 2 (some .boolean), .methodLink RX0 235 yX0_areAllNeighbours, .static yX0_areAllNeighbours, .code yX0_areAllNeighbours cX0_areAllNeighbours 3 (some .boolean)])
def wsX0_firstWithStranger : List Cond := .code yX0_firstWithStranger cX0_firstWithStranger 3 (some .int) :: ([.methodLink RX0 140 yX0_has, .static yX0_has, .initialized RX0, .code yX0_has cX0_has 2 (some .boolean)])
def wsX0_firstOf : List Cond := .code yX0_firstOf cX0_firstOf 2 (some .int) :: ([.methodLink RX0 140 yX0_has, .static yX0_has, .initialized RX0, .code yX0_has cX0_has 2 (some .boolean)])
def wsX0_makeOne : List Cond := .code yX0_makeOne cX0_makeOne 5 none :: ([.methodLink RX0 140 yX0_has, .static yX0_has, .initialized RX0, .code yX0_has cX0_has 2 (some .boolean)])
def wsX0_countByPairs_r1 : List Cond := [Cond.methodLink RX0 221 yX0_oneToTintLast, Cond.static yX0_oneToTintLast, Cond.initialized RX0, Cond.code yX0_oneToTintLast cX0_oneToTintLast 3 (some .int), Cond.methodLink RX0 140 yX0_has, Cond.static yX0_has, Cond.code yX0_has cX0_has 2 (some .boolean), Cond.methodLink RX0 235 yX0_areAllNeighbours, Cond.static yX0_areAllNeighbours, Cond.code yX0_areAllNeighbours cX0_areAllNeighbours 3 (some .boolean), Cond.methodLink RX0 77 yJ6_bitCount_0f7a4, Cond.static yJ6_bitCount_0f7a4, Cond.initialized RJ6, Cond.code yJ6_bitCount_0f7a4 cJ6_bitCount_0f7a4 1 (some .int), Cond.constant RJ6 265 (1431655765), Cond.constant RJ6 266 (858993459), Cond.constant RJ6 267 (252645135), Cond.methodLink RX0 225 yX0_firstWithStranger, Cond.static yX0_firstWithStranger, Cond.code yX0_firstWithStranger cX0_firstWithStranger 3 (some .int), Cond.methodLink RX0 228 yX0_firstOf, Cond.static yX0_firstOf, Cond.code yX0_firstOf cX0_firstOf 2 (some .int), Cond.methodLink RX0 231 yX0_makeOne]
def wsX0_countByPairs_r2 : List Cond := [Cond.static yX0_makeOne, Cond.code yX0_makeOne cX0_makeOne 5 none, Cond.methodLink RX0 174 yX0_countByPairs, Cond.static yX0_countByPairs]
def wsX0_countByPairs : List Cond := .code yX0_countByPairs cX0_countByPairs 14 (some .long) :: ((wsX0_countByPairs_r1 ++ wsX0_countByPairs_r2))
def wsX0_tintingsByPairs_r1 : List Cond := [Cond.fieldLink RX0 17 "FourTints" "near" "[I", Cond.fieldLink RX0 36 "FourTints" "joined" "[[I", Cond.methodLink RX0 168 arraycopyName, Cond.native arraycopyName, Cond.static arraycopyName, Cond.initialized "java/lang/System", Cond.fieldLink RX0 13 "FourTints" "there" "I", Cond.methodLink RX0 153 yX0_checkNumberOfTints, Cond.static yX0_checkNumberOfTints, Cond.initialized RX0, Cond.code yX0_checkNumberOfTints cX0_checkNumberOfTints 1 none, Cond.classLink RX0 59 "java/lang/IllegalArgumentException", Cond.initialized "java/lang/IllegalArgumentException", Cond.methodLink RX0 174 yX0_countByPairs, Cond.static yX0_countByPairs, Cond.code yX0_countByPairs cX0_countByPairs 14 (some .long), Cond.methodLink RX0 221 yX0_oneToTintLast, Cond.static yX0_oneToTintLast, Cond.code yX0_oneToTintLast cX0_oneToTintLast 3 (some .int), Cond.methodLink RX0 140 yX0_has, Cond.static yX0_has, Cond.code yX0_has cX0_has 2 (some .boolean), Cond.methodLink RX0 235 yX0_areAllNeighbours, Cond.static yX0_areAllNeighbours]
def wsX0_tintingsByPairs_r2 : List Cond := [Cond.code yX0_areAllNeighbours cX0_areAllNeighbours 3 (some .boolean), Cond.methodLink RX0 77 yJ6_bitCount_0f7a4, Cond.static yJ6_bitCount_0f7a4, Cond.initialized RJ6, Cond.code yJ6_bitCount_0f7a4 cJ6_bitCount_0f7a4 1 (some .int), Cond.constant RJ6 265 (1431655765), Cond.constant RJ6 266 (858993459), Cond.constant RJ6 267 (252645135), Cond.methodLink RX0 225 yX0_firstWithStranger, Cond.static yX0_firstWithStranger, Cond.code yX0_firstWithStranger cX0_firstWithStranger 3 (some .int), Cond.methodLink RX0 228 yX0_firstOf, Cond.static yX0_firstOf, Cond.code yX0_firstOf cX0_firstOf 2 (some .int), Cond.methodLink RX0 231 yX0_makeOne, Cond.static yX0_makeOne, Cond.code yX0_makeOne cX0_makeOne 5 none]
def wsX0_tintingsByPairs : List Cond := .code yX0_tintingsByPairs cX0_tintingsByPairs 2 (some .long) :: ((wsX0_tintingsByPairs_r1 ++ wsX0_tintingsByPairs_r2) ++ wsX00 ++ (vx_atS RX0 63 "java/lang/IllegalArgumentException" ["java/lang/RuntimeException", "java/lang/Exception"]).filter goodWord)
def wsX1_init : List Cond := .code yX1_init cX1_init 2 none :: ([.methodLink RX1 3 objectInit, .instanceMethod objectInit, .code objectInit ⟨#[0xb1]⟩ 1 none, .arrayClass .int, .fieldLink RX1 9 "FourTintsModel" "cell" "[I", .fieldLink RX1 13 "FourTintsModel" "tint" "[I", .arrayClass .long, .fieldLink RX1 16 "FourTintsModel" "cells" "[J", .fieldLink RX1 20 "FourTintsModel" "near" "[I", .fieldLink RX1 23 "FourTintsModel" "ways" "[J", .fieldLink RX1 26 "FourTintsModel" "more" "[J"] ++ wsX10)
def wsX1_thrown : List Cond := .code yX1_thrown cX1_thrown 1 (some .int) :: ([.fieldLink RX1 29 "FourTintsModel" "thrown" "I"] ++ wsX10)
def wsX1_in : List Cond := .code yX1_in cX1_in 3 (some .boolean) :: ([])
def wsX1_goes : List Cond := .code yX1_goes cX1_goes 4 (some .boolean) :: ([.fieldLink RX1 29 "FourTintsModel" "thrown" "I"] ++ wsX10)
def wsX1_told : List Cond := .code yX1_told cX1_told 2 (some .int) :: ([.fieldLink RX1 29 "FourTintsModel" "thrown" "I"] ++ wsX10)
def wsX1_isCell : List Cond := .code yX1_isCell cX1_isCell 2 (some .boolean) :: ([.methodLink RX1 33 yX1_in, .static yX1_in, .initialized RX1, .code yX1_in cX1_in 3 (some .boolean)])
def wsX1_isCountry : List Cond := .code yX1_isCountry cX1_isCountry 1 (some .boolean) :: ([.methodLink RX1 33 yX1_in, .static yX1_in, .initialized RX1, .code yX1_in cX1_in 3 (some .boolean)])
def wsX1_bits : List Cond := .code yX1_bits cX1_bits 4 (some .int) :: ([])
def wsX1_spread : List Cond := .code yX1_spread cX1_spread 2 (some .long) :: ([.constantLong RX1 37 (-34905131041), .constantLong RX1 39 (-1090785346), .constantLong RX1 41 (68719476735)])
def wsX1_reach : List Cond := .code yX1_reach cX1_reach 8 (some .long) :: ([.methodLink RX1 43 yX1_spread, .static yX1_spread, .initialized RX1, .code yX1_spread cX1_spread 2 (some .long), .constantLong RX1 37 (-34905131041), .constantLong RX1 39 (-1090785346), .constantLong RX1 41 (68719476735)])
def wsX1_looks : List Cond := .code yX1_looks cX1_looks 3 none :: ([.fieldLink RX1 47 "FourTintsModel" "there" "I", .fieldLink RX1 16 "FourTintsModel" "cells" "[J", .fieldLink RX1 9 "FourTintsModel" "cell" "[I", .fieldLink RX1 20 "FourTintsModel" "near" "[I", .methodLink RX1 43 yX1_spread, .static yX1_spread, .initialized RX1, .code yX1_spread cX1_spread 2 (some .long), .constantLong RX1 37 (-34905131041), .constantLong RX1 39 (-1090785346), .constantLong RX1 41 (68719476735)] ++ wsX10)
def wsX1_isThere : List Cond := .code yX1_isThere cX1_isThere 2 (some .boolean) :: ([.fieldLink RX1 47 "FourTintsModel" "there" "I"] ++ wsX10)
def wsX1_paints : List Cond := .code yX1_paints cX1_paints 4 (some .int) :: ([.fieldLink RX1 9 "FourTintsModel" "cell" "[I"] ++ wsX10)
def wsX1_paint : List Cond := .code yX1_paint cX1_paint 6 (some .int) :: ([.fieldLink RX1 9 "FourTintsModel" "cell" "[I", .methodLink RX1 50 yX1_isCell, .static yX1_isCell, .initialized RX1, .code yX1_isCell cX1_isCell 2 (some .boolean), .methodLink RX1 33 yX1_in, .static yX1_in, .code yX1_in cX1_in 3 (some .boolean), .methodLink RX1 54 yX1_isCountry, .static yX1_isCountry, .code yX1_isCountry cX1_isCountry 1 (some .boolean), .methodLink RX1 58 yX1_goes, .instanceMethod yX1_goes, .selects RX1 yX1_goes yX1_goes, .code yX1_goes cX1_goes 4 (some .boolean), .fieldLink RX1 29 "FourTintsModel" "thrown" "I", .methodLink RX1 62 yX1_paints, .instanceMethod yX1_paints, .selects RX1 yX1_paints yX1_paints, .code yX1_paints cX1_paints 4 (some .int)] ++ wsX10)
def wsX1_paintBlock : List Cond := .code yX1_paintBlock cX1_paintBlock 9 (some .int) :: ([.methodLink RX1 50 yX1_isCell, .static yX1_isCell, .initialized RX1, .code yX1_isCell cX1_isCell 2 (some .boolean), .methodLink RX1 33 yX1_in, .static yX1_in, .code yX1_in cX1_in 3 (some .boolean), .methodLink RX1 54 yX1_isCountry, .static yX1_isCountry, .code yX1_isCountry cX1_isCountry 1 (some .boolean), .methodLink RX1 58 yX1_goes, .instanceMethod yX1_goes, .selects RX1 yX1_goes yX1_goes, .code yX1_goes cX1_goes 4 (some .boolean), .fieldLink RX1 29 "FourTintsModel" "thrown" "I", .methodLink RX1 62 yX1_paints, .instanceMethod yX1_paints, .selects RX1 yX1_paints yX1_paints, .code yX1_paints cX1_paints 4 (some .int), .fieldLink RX1 9 "FourTintsModel" "cell" "[I"] ++ wsX10)
def wsX1_countryAt : List Cond := .code yX1_countryAt cX1_countryAt 3 (some .int) :: ([.fieldLink RX1 9 "FourTintsModel" "cell" "[I", .methodLink RX1 50 yX1_isCell, .static yX1_isCell, .initialized RX1, .code yX1_isCell cX1_isCell 2 (some .boolean), .methodLink RX1 33 yX1_in, .static yX1_in, .code yX1_in cX1_in 3 (some .boolean), .methodLink RX1 58 yX1_goes, .instanceMethod yX1_goes, .selects RX1 yX1_goes yX1_goes, .code yX1_goes cX1_goes 4 (some .boolean), .fieldLink RX1 29 "FourTintsModel" "thrown" "I"] ++ wsX10)
def wsX1_countries : List Cond := .code yX1_countries cX1_countries 1 (some .int) :: ([.fieldLink RX1 47 "FourTintsModel" "there" "I", .methodLink RX1 66 yX1_looks, .instanceMethod yX1_looks, .selects RX1 yX1_looks yX1_looks, .initialized RX1, .code yX1_looks cX1_looks 3 none, .fieldLink RX1 16 "FourTintsModel" "cells" "[J", .fieldLink RX1 9 "FourTintsModel" "cell" "[I", .fieldLink RX1 20 "FourTintsModel" "near" "[I", .methodLink RX1 43 yX1_spread, .static yX1_spread, .code yX1_spread cX1_spread 2 (some .long), .constantLong RX1 37 (-34905131041), .constantLong RX1 39 (-1090785346), .constantLong RX1 41 (68719476735), .methodLink RX1 69 yX1_bits, .static yX1_bits, .code yX1_bits cX1_bits 4 (some .int), .methodLink RX1 73 yX1_told, .instanceMethod yX1_told, .selects RX1 yX1_told yX1_told, .code yX1_told cX1_told 2 (some .int), .fieldLink RX1 29 "FourTintsModel" "thrown" "I"] ++ wsX10)
def wsX1_area_r1 : List Cond := [Cond.fieldLink RX1 16 "FourTintsModel" "cells" "[J", Cond.methodLink RX1 66 yX1_looks, Cond.instanceMethod yX1_looks, Cond.selects RX1 yX1_looks yX1_looks, Cond.initialized RX1, Cond.code yX1_looks cX1_looks 3 none, Cond.fieldLink RX1 47 "FourTintsModel" "there" "I", Cond.fieldLink RX1 9 "FourTintsModel" "cell" "[I", Cond.fieldLink RX1 20 "FourTintsModel" "near" "[I", Cond.methodLink RX1 43 yX1_spread, Cond.static yX1_spread, Cond.code yX1_spread cX1_spread 2 (some .long), Cond.constantLong RX1 37 (-34905131041), Cond.constantLong RX1 39 (-1090785346), Cond.constantLong RX1 41 (68719476735), Cond.methodLink RX1 54 yX1_isCountry, Cond.static yX1_isCountry, Cond.code yX1_isCountry cX1_isCountry 1 (some .boolean), Cond.methodLink RX1 33 yX1_in, Cond.static yX1_in, Cond.code yX1_in cX1_in 3 (some .boolean), Cond.methodLink RX1 58 yX1_goes, Cond.instanceMethod yX1_goes, Cond.selects RX1 yX1_goes yX1_goes]
def wsX1_area_r2 : List Cond := [Cond.code yX1_goes cX1_goes 4 (some .boolean), Cond.fieldLink RX1 29 "FourTintsModel" "thrown" "I", Cond.methodLink RX1 69 yX1_bits, Cond.static yX1_bits, Cond.code yX1_bits cX1_bits 4 (some .int)]
def wsX1_area : List Cond := .code yX1_area cX1_area 2 (some .int) :: ((wsX1_area_r1 ++ wsX1_area_r2) ++ wsX10)
def wsX1_piece : List Cond := .code yX1_piece cX1_piece 2 (some .long) :: ([.methodLink RX1 77 yX1_reach, .static yX1_reach, .initialized RX1, .code yX1_reach cX1_reach 8 (some .long), .methodLink RX1 43 yX1_spread, .static yX1_spread, .code yX1_spread cX1_spread 2 (some .long), .constantLong RX1 37 (-34905131041), .constantLong RX1 39 (-1090785346), .constantLong RX1 41 (68719476735)])
def wsX1_piecesOf : List Cond := .code yX1_piecesOf cX1_piecesOf 5 (some .int) :: ([.fieldLink RX1 16 "FourTintsModel" "cells" "[J", .constantLong RX1 84 (-1), .methodLink RX1 81 yX1_piece, .static yX1_piece, .initialized RX1, .code yX1_piece cX1_piece 2 (some .long), .methodLink RX1 77 yX1_reach, .static yX1_reach, .code yX1_reach cX1_reach 8 (some .long), .methodLink RX1 43 yX1_spread, .static yX1_spread, .code yX1_spread cX1_spread 2 (some .long), .constantLong RX1 37 (-34905131041), .constantLong RX1 39 (-1090785346), .constantLong RX1 41 (68719476735)] ++ wsX10)
def wsX1_pieces_r1 : List Cond := [Cond.methodLink RX1 66 yX1_looks, Cond.instanceMethod yX1_looks, Cond.selects RX1 yX1_looks yX1_looks, Cond.initialized RX1, Cond.code yX1_looks cX1_looks 3 none, Cond.fieldLink RX1 47 "FourTintsModel" "there" "I", Cond.fieldLink RX1 16 "FourTintsModel" "cells" "[J", Cond.fieldLink RX1 9 "FourTintsModel" "cell" "[I", Cond.fieldLink RX1 20 "FourTintsModel" "near" "[I", Cond.methodLink RX1 43 yX1_spread, Cond.static yX1_spread, Cond.code yX1_spread cX1_spread 2 (some .long), Cond.constantLong RX1 37 (-34905131041), Cond.constantLong RX1 39 (-1090785346), Cond.constantLong RX1 41 (68719476735), Cond.methodLink RX1 54 yX1_isCountry, Cond.static yX1_isCountry, Cond.code yX1_isCountry cX1_isCountry 1 (some .boolean), Cond.methodLink RX1 33 yX1_in, Cond.static yX1_in, Cond.code yX1_in cX1_in 3 (some .boolean), Cond.methodLink RX1 58 yX1_goes, Cond.instanceMethod yX1_goes, Cond.selects RX1 yX1_goes yX1_goes]
def wsX1_pieces_r2 : List Cond := [Cond.code yX1_goes cX1_goes 4 (some .boolean), Cond.fieldLink RX1 29 "FourTintsModel" "thrown" "I", Cond.methodLink RX1 86 yX1_piecesOf, Cond.instanceMethod yX1_piecesOf, Cond.selects RX1 yX1_piecesOf yX1_piecesOf, Cond.code yX1_piecesOf cX1_piecesOf 5 (some .int), Cond.constantLong RX1 84 (-1), Cond.methodLink RX1 81 yX1_piece, Cond.static yX1_piece, Cond.code yX1_piece cX1_piece 2 (some .long), Cond.methodLink RX1 77 yX1_reach, Cond.static yX1_reach, Cond.code yX1_reach cX1_reach 8 (some .long)]
def wsX1_pieces : List Cond := .code yX1_pieces cX1_pieces 2 (some .int) :: ((wsX1_pieces_r1 ++ wsX1_pieces_r2) ++ wsX10)
def wsX1_largestPiece_r1 : List Cond := [Cond.fieldLink RX1 16 "FourTintsModel" "cells" "[J", Cond.constantLong RX1 84 (-1), Cond.methodLink RX1 66 yX1_looks, Cond.instanceMethod yX1_looks, Cond.selects RX1 yX1_looks yX1_looks, Cond.initialized RX1, Cond.code yX1_looks cX1_looks 3 none, Cond.fieldLink RX1 47 "FourTintsModel" "there" "I", Cond.fieldLink RX1 9 "FourTintsModel" "cell" "[I", Cond.fieldLink RX1 20 "FourTintsModel" "near" "[I", Cond.methodLink RX1 43 yX1_spread, Cond.static yX1_spread, Cond.code yX1_spread cX1_spread 2 (some .long), Cond.constantLong RX1 37 (-34905131041), Cond.constantLong RX1 39 (-1090785346), Cond.constantLong RX1 41 (68719476735), Cond.methodLink RX1 54 yX1_isCountry, Cond.static yX1_isCountry, Cond.code yX1_isCountry cX1_isCountry 1 (some .boolean), Cond.methodLink RX1 33 yX1_in, Cond.static yX1_in, Cond.code yX1_in cX1_in 3 (some .boolean), Cond.methodLink RX1 58 yX1_goes, Cond.instanceMethod yX1_goes]
def wsX1_largestPiece_r2 : List Cond := [Cond.selects RX1 yX1_goes yX1_goes, Cond.code yX1_goes cX1_goes 4 (some .boolean), Cond.fieldLink RX1 29 "FourTintsModel" "thrown" "I", Cond.methodLink RX1 81 yX1_piece, Cond.static yX1_piece, Cond.code yX1_piece cX1_piece 2 (some .long), Cond.methodLink RX1 77 yX1_reach, Cond.static yX1_reach, Cond.code yX1_reach cX1_reach 8 (some .long), Cond.methodLink RX1 69 yX1_bits, Cond.static yX1_bits, Cond.code yX1_bits cX1_bits 4 (some .int)]
def wsX1_largestPiece : List Cond := .code yX1_largestPiece cX1_largestPiece 6 (some .int) :: ((wsX1_largestPiece_r1 ++ wsX1_largestPiece_r2) ++ wsX10)
def wsX1_scattered_r1 : List Cond := [Cond.fieldLink RX1 29 "FourTintsModel" "thrown" "I", Cond.methodLink RX1 66 yX1_looks, Cond.instanceMethod yX1_looks, Cond.selects RX1 yX1_looks yX1_looks, Cond.initialized RX1, Cond.code yX1_looks cX1_looks 3 none, Cond.fieldLink RX1 47 "FourTintsModel" "there" "I", Cond.fieldLink RX1 16 "FourTintsModel" "cells" "[J", Cond.fieldLink RX1 9 "FourTintsModel" "cell" "[I", Cond.fieldLink RX1 20 "FourTintsModel" "near" "[I", Cond.methodLink RX1 43 yX1_spread, Cond.static yX1_spread, Cond.code yX1_spread cX1_spread 2 (some .long), Cond.constantLong RX1 37 (-34905131041), Cond.constantLong RX1 39 (-1090785346), Cond.constantLong RX1 41 (68719476735), Cond.methodLink RX1 86 yX1_piecesOf, Cond.instanceMethod yX1_piecesOf, Cond.selects RX1 yX1_piecesOf yX1_piecesOf, Cond.code yX1_piecesOf cX1_piecesOf 5 (some .int), Cond.constantLong RX1 84 (-1), Cond.methodLink RX1 81 yX1_piece, Cond.static yX1_piece, Cond.code yX1_piece cX1_piece 2 (some .long)]
def wsX1_scattered_r2 : List Cond := [Cond.methodLink RX1 77 yX1_reach, Cond.static yX1_reach, Cond.code yX1_reach cX1_reach 8 (some .long)]
def wsX1_scattered : List Cond := .code yX1_scattered cX1_scattered 3 (some .int) :: ((wsX1_scattered_r1 ++ wsX1_scattered_r2) ++ wsX10)
def wsX1_neighbours_r1 : List Cond := [Cond.fieldLink RX1 20 "FourTintsModel" "near" "[I", Cond.methodLink RX1 66 yX1_looks, Cond.instanceMethod yX1_looks, Cond.selects RX1 yX1_looks yX1_looks, Cond.initialized RX1, Cond.code yX1_looks cX1_looks 3 none, Cond.fieldLink RX1 47 "FourTintsModel" "there" "I", Cond.fieldLink RX1 16 "FourTintsModel" "cells" "[J", Cond.fieldLink RX1 9 "FourTintsModel" "cell" "[I", Cond.methodLink RX1 43 yX1_spread, Cond.static yX1_spread, Cond.code yX1_spread cX1_spread 2 (some .long), Cond.constantLong RX1 37 (-34905131041), Cond.constantLong RX1 39 (-1090785346), Cond.constantLong RX1 41 (68719476735), Cond.methodLink RX1 54 yX1_isCountry, Cond.static yX1_isCountry, Cond.code yX1_isCountry cX1_isCountry 1 (some .boolean), Cond.methodLink RX1 33 yX1_in, Cond.static yX1_in, Cond.code yX1_in cX1_in 3 (some .boolean), Cond.methodLink RX1 58 yX1_goes, Cond.instanceMethod yX1_goes, Cond.selects RX1 yX1_goes yX1_goes]
def wsX1_neighbours_r2 : List Cond := [Cond.code yX1_goes cX1_goes 4 (some .boolean), Cond.fieldLink RX1 29 "FourTintsModel" "thrown" "I", Cond.methodLink RX1 69 yX1_bits, Cond.static yX1_bits, Cond.code yX1_bits cX1_bits 4 (some .int)]
def wsX1_neighbours : List Cond := .code yX1_neighbours cX1_neighbours 2 (some .int) :: ((wsX1_neighbours_r1 ++ wsX1_neighbours_r2) ++ wsX10)
def wsX1_touches : List Cond := .code yX1_touches cX1_touches 4 (some .int) :: ([.constantLong RX1 37 (-34905131041), .methodLink RX1 69 yX1_bits, .static yX1_bits, .initialized RX1, .code yX1_bits cX1_bits 4 (some .int)])
def wsX1_border_r1 : List Cond := [Cond.fieldLink RX1 16 "FourTintsModel" "cells" "[J", Cond.methodLink RX1 66 yX1_looks, Cond.instanceMethod yX1_looks, Cond.selects RX1 yX1_looks yX1_looks, Cond.initialized RX1, Cond.code yX1_looks cX1_looks 3 none, Cond.fieldLink RX1 47 "FourTintsModel" "there" "I", Cond.fieldLink RX1 9 "FourTintsModel" "cell" "[I", Cond.fieldLink RX1 20 "FourTintsModel" "near" "[I", Cond.methodLink RX1 43 yX1_spread, Cond.static yX1_spread, Cond.code yX1_spread cX1_spread 2 (some .long), Cond.constantLong RX1 37 (-34905131041), Cond.constantLong RX1 39 (-1090785346), Cond.constantLong RX1 41 (68719476735), Cond.methodLink RX1 54 yX1_isCountry, Cond.static yX1_isCountry, Cond.code yX1_isCountry cX1_isCountry 1 (some .boolean), Cond.methodLink RX1 33 yX1_in, Cond.static yX1_in, Cond.code yX1_in cX1_in 3 (some .boolean), Cond.methodLink RX1 58 yX1_goes, Cond.instanceMethod yX1_goes, Cond.selects RX1 yX1_goes yX1_goes]
def wsX1_border_r2 : List Cond := [Cond.code yX1_goes cX1_goes 4 (some .boolean), Cond.fieldLink RX1 29 "FourTintsModel" "thrown" "I", Cond.methodLink RX1 89 yX1_touches, Cond.static yX1_touches, Cond.code yX1_touches cX1_touches 4 (some .int), Cond.methodLink RX1 69 yX1_bits, Cond.static yX1_bits, Cond.code yX1_bits cX1_bits 4 (some .int)]
def wsX1_border : List Cond := .code yX1_border cX1_border 3 (some .int) :: ((wsX1_border_r1 ++ wsX1_border_r2) ++ wsX10)
def wsX1_enclosed_r1 : List Cond := [Cond.constantLong RX1 41 (68719476735), Cond.fieldLink RX1 16 "FourTintsModel" "cells" "[J", Cond.constantLong RX1 84 (-1), Cond.constantLong RX1 93 (68208171135), Cond.methodLink RX1 66 yX1_looks, Cond.instanceMethod yX1_looks, Cond.selects RX1 yX1_looks yX1_looks, Cond.initialized RX1, Cond.code yX1_looks cX1_looks 3 none, Cond.fieldLink RX1 47 "FourTintsModel" "there" "I", Cond.fieldLink RX1 9 "FourTintsModel" "cell" "[I", Cond.fieldLink RX1 20 "FourTintsModel" "near" "[I", Cond.methodLink RX1 43 yX1_spread, Cond.static yX1_spread, Cond.code yX1_spread cX1_spread 2 (some .long), Cond.constantLong RX1 37 (-34905131041), Cond.constantLong RX1 39 (-1090785346), Cond.methodLink RX1 54 yX1_isCountry, Cond.static yX1_isCountry, Cond.code yX1_isCountry cX1_isCountry 1 (some .boolean), Cond.methodLink RX1 33 yX1_in, Cond.static yX1_in, Cond.code yX1_in cX1_in 3 (some .boolean), Cond.methodLink RX1 58 yX1_goes]
def wsX1_enclosed_r2 : List Cond := [Cond.instanceMethod yX1_goes, Cond.selects RX1 yX1_goes yX1_goes, Cond.code yX1_goes cX1_goes 4 (some .boolean), Cond.fieldLink RX1 29 "FourTintsModel" "thrown" "I", Cond.methodLink RX1 77 yX1_reach, Cond.static yX1_reach, Cond.code yX1_reach cX1_reach 8 (some .long), Cond.methodLink RX1 69 yX1_bits, Cond.static yX1_bits, Cond.code yX1_bits cX1_bits 4 (some .int)]
def wsX1_enclosed : List Cond := .code yX1_enclosed cX1_enclosed 4 (some .int) :: ((wsX1_enclosed_r1 ++ wsX1_enclosed_r2) ++ wsX10)
def wsX1_areNear : List Cond := .code yX1_areNear cX1_areNear 6 (some .boolean) :: ([.fieldLink RX1 47 "FourTintsModel" "there" "I", .fieldLink RX1 20 "FourTintsModel" "near" "[I"] ++ wsX10)
def wsX1_allNeighbours : List Cond := .code yX1_allNeighbours cX1_allNeighbours 3 (some .int) :: ([.fieldLink RX1 29 "FourTintsModel" "thrown" "I", .methodLink RX1 66 yX1_looks, .instanceMethod yX1_looks, .selects RX1 yX1_looks yX1_looks, .initialized RX1, .code yX1_looks cX1_looks 3 none, .fieldLink RX1 47 "FourTintsModel" "there" "I", .fieldLink RX1 16 "FourTintsModel" "cells" "[J", .fieldLink RX1 9 "FourTintsModel" "cell" "[I", .fieldLink RX1 20 "FourTintsModel" "near" "[I", .methodLink RX1 43 yX1_spread, .static yX1_spread, .code yX1_spread cX1_spread 2 (some .long), .constantLong RX1 37 (-34905131041), .constantLong RX1 39 (-1090785346), .constantLong RX1 41 (68719476735), .methodLink RX1 69 yX1_bits, .static yX1_bits, .code yX1_bits cX1_bits 4 (some .int), .methodLink RX1 95 yX1_areNear, .instanceMethod yX1_areNear, .selects RX1 yX1_areNear yX1_areNear, .code yX1_areNear cX1_areNear 6 (some .boolean)] ++ wsX10)
def wsX1_tint : List Cond := .code yX1_tint cX1_tint 4 (some .int) :: ([.fieldLink RX1 13 "FourTintsModel" "tint" "[I", .methodLink RX1 54 yX1_isCountry, .static yX1_isCountry, .initialized RX1, .code yX1_isCountry cX1_isCountry 1 (some .boolean), .methodLink RX1 33 yX1_in, .static yX1_in, .code yX1_in cX1_in 3 (some .boolean), .methodLink RX1 58 yX1_goes, .instanceMethod yX1_goes, .selects RX1 yX1_goes yX1_goes, .code yX1_goes cX1_goes 4 (some .boolean), .fieldLink RX1 29 "FourTintsModel" "thrown" "I"] ++ wsX10)
def wsX1_tintOf : List Cond := .code yX1_tintOf cX1_tintOf 2 (some .int) :: ([.fieldLink RX1 13 "FourTintsModel" "tint" "[I", .methodLink RX1 54 yX1_isCountry, .static yX1_isCountry, .initialized RX1, .code yX1_isCountry cX1_isCountry 1 (some .boolean), .methodLink RX1 33 yX1_in, .static yX1_in, .code yX1_in cX1_in 3 (some .boolean), .methodLink RX1 58 yX1_goes, .instanceMethod yX1_goes, .selects RX1 yX1_goes yX1_goes, .code yX1_goes cX1_goes 4 (some .boolean), .fieldLink RX1 29 "FourTintsModel" "thrown" "I"] ++ wsX10)
def wsX1_inConflict : List Cond := .code yX1_inConflict cX1_inConflict 4 (some .int) :: ([.fieldLink RX1 20 "FourTintsModel" "near" "[I", .fieldLink RX1 13 "FourTintsModel" "tint" "[I", .methodLink RX1 66 yX1_looks, .instanceMethod yX1_looks, .selects RX1 yX1_looks yX1_looks, .initialized RX1, .code yX1_looks cX1_looks 3 none, .fieldLink RX1 47 "FourTintsModel" "there" "I", .fieldLink RX1 16 "FourTintsModel" "cells" "[J", .fieldLink RX1 9 "FourTintsModel" "cell" "[I", .methodLink RX1 43 yX1_spread, .static yX1_spread, .code yX1_spread cX1_spread 2 (some .long), .constantLong RX1 37 (-34905131041), .constantLong RX1 39 (-1090785346), .constantLong RX1 41 (68719476735)] ++ wsX10)
def wsX1_conflicts_r1 : List Cond := [Cond.methodLink RX1 99 yX1_inConflict, Cond.instanceMethod yX1_inConflict, Cond.selects RX1 yX1_inConflict yX1_inConflict, Cond.initialized RX1, Cond.code yX1_inConflict cX1_inConflict 4 (some .int), Cond.fieldLink RX1 20 "FourTintsModel" "near" "[I", Cond.fieldLink RX1 13 "FourTintsModel" "tint" "[I", Cond.methodLink RX1 66 yX1_looks, Cond.instanceMethod yX1_looks, Cond.selects RX1 yX1_looks yX1_looks, Cond.code yX1_looks cX1_looks 3 none, Cond.fieldLink RX1 47 "FourTintsModel" "there" "I", Cond.fieldLink RX1 16 "FourTintsModel" "cells" "[J", Cond.fieldLink RX1 9 "FourTintsModel" "cell" "[I", Cond.methodLink RX1 43 yX1_spread, Cond.static yX1_spread, Cond.code yX1_spread cX1_spread 2 (some .long), Cond.constantLong RX1 37 (-34905131041), Cond.constantLong RX1 39 (-1090785346), Cond.constantLong RX1 41 (68719476735), Cond.methodLink RX1 73 yX1_told, Cond.instanceMethod yX1_told, Cond.selects RX1 yX1_told yX1_told, Cond.code yX1_told cX1_told 2 (some .int)]
def wsX1_conflicts_r2 : List Cond := [Cond.fieldLink RX1 29 "FourTintsModel" "thrown" "I"]
def wsX1_conflicts : List Cond := .code yX1_conflicts cX1_conflicts 1 (some .int) :: ((wsX1_conflicts_r1 ++ wsX1_conflicts_r2) ++ wsX10)
def wsX1_isTinted_r1 : List Cond := [Cond.fieldLink RX1 29 "FourTintsModel" "thrown" "I", Cond.fieldLink RX1 13 "FourTintsModel" "tint" "[I", Cond.methodLink RX1 99 yX1_inConflict, Cond.instanceMethod yX1_inConflict, Cond.selects RX1 yX1_inConflict yX1_inConflict, Cond.initialized RX1, Cond.code yX1_inConflict cX1_inConflict 4 (some .int), Cond.fieldLink RX1 20 "FourTintsModel" "near" "[I", Cond.methodLink RX1 66 yX1_looks, Cond.instanceMethod yX1_looks, Cond.selects RX1 yX1_looks yX1_looks, Cond.code yX1_looks cX1_looks 3 none, Cond.fieldLink RX1 47 "FourTintsModel" "there" "I", Cond.fieldLink RX1 16 "FourTintsModel" "cells" "[J", Cond.fieldLink RX1 9 "FourTintsModel" "cell" "[I", Cond.methodLink RX1 43 yX1_spread, Cond.static yX1_spread, Cond.code yX1_spread cX1_spread 2 (some .long), Cond.constantLong RX1 37 (-34905131041), Cond.constantLong RX1 39 (-1090785346), Cond.constantLong RX1 41 (68719476735), Cond.methodLink RX1 103 yX1_isThere, Cond.instanceMethod yX1_isThere, Cond.selects RX1 yX1_isThere yX1_isThere]
def wsX1_isTinted_r2 : List Cond := [Cond.code yX1_isThere cX1_isThere 2 (some .boolean)]
def wsX1_isTinted : List Cond := .code yX1_isTinted cX1_isTinted 3 (some .boolean) :: ((wsX1_isTinted_r1 ++ wsX1_isTinted_r2) ++ wsX10)
def wsX1_least : List Cond := .code yX1_least cX1_least 5 (some .int) :: ([.fieldLink RX1 13 "FourTintsModel" "tint" "[I"] ++ wsX10)
def wsX1_leastFree_r1 : List Cond := [Cond.fieldLink RX1 20 "FourTintsModel" "near" "[I", Cond.methodLink RX1 66 yX1_looks, Cond.instanceMethod yX1_looks, Cond.selects RX1 yX1_looks yX1_looks, Cond.initialized RX1, Cond.code yX1_looks cX1_looks 3 none, Cond.fieldLink RX1 47 "FourTintsModel" "there" "I", Cond.fieldLink RX1 16 "FourTintsModel" "cells" "[J", Cond.fieldLink RX1 9 "FourTintsModel" "cell" "[I", Cond.methodLink RX1 43 yX1_spread, Cond.static yX1_spread, Cond.code yX1_spread cX1_spread 2 (some .long), Cond.constantLong RX1 37 (-34905131041), Cond.constantLong RX1 39 (-1090785346), Cond.constantLong RX1 41 (68719476735), Cond.methodLink RX1 54 yX1_isCountry, Cond.static yX1_isCountry, Cond.code yX1_isCountry cX1_isCountry 1 (some .boolean), Cond.methodLink RX1 33 yX1_in, Cond.static yX1_in, Cond.code yX1_in cX1_in 3 (some .boolean), Cond.methodLink RX1 58 yX1_goes, Cond.instanceMethod yX1_goes, Cond.selects RX1 yX1_goes yX1_goes]
def wsX1_leastFree_r2 : List Cond := [Cond.code yX1_goes cX1_goes 4 (some .boolean), Cond.fieldLink RX1 29 "FourTintsModel" "thrown" "I", Cond.methodLink RX1 106 yX1_least, Cond.instanceMethod yX1_least, Cond.selects RX1 yX1_least yX1_least, Cond.code yX1_least cX1_least 5 (some .int), Cond.fieldLink RX1 13 "FourTintsModel" "tint" "[I"]
def wsX1_leastFree : List Cond := .code yX1_leastFree cX1_leastFree 2 (some .int) :: ((wsX1_leastFree_r1 ++ wsX1_leastFree_r2) ++ wsX10)
def wsX1_isChain_r1 : List Cond := [Cond.fieldLink RX1 13 "FourTintsModel" "tint" "[I", Cond.methodLink RX1 66 yX1_looks, Cond.instanceMethod yX1_looks, Cond.selects RX1 yX1_looks yX1_looks, Cond.initialized RX1, Cond.code yX1_looks cX1_looks 3 none, Cond.fieldLink RX1 47 "FourTintsModel" "there" "I", Cond.fieldLink RX1 16 "FourTintsModel" "cells" "[J", Cond.fieldLink RX1 9 "FourTintsModel" "cell" "[I", Cond.fieldLink RX1 20 "FourTintsModel" "near" "[I", Cond.methodLink RX1 43 yX1_spread, Cond.static yX1_spread, Cond.code yX1_spread cX1_spread 2 (some .long), Cond.constantLong RX1 37 (-34905131041), Cond.constantLong RX1 39 (-1090785346), Cond.constantLong RX1 41 (68719476735), Cond.methodLink RX1 54 yX1_isCountry, Cond.static yX1_isCountry, Cond.code yX1_isCountry cX1_isCountry 1 (some .boolean), Cond.methodLink RX1 33 yX1_in, Cond.static yX1_in, Cond.code yX1_in cX1_in 3 (some .boolean), Cond.methodLink RX1 103 yX1_isThere, Cond.instanceMethod yX1_isThere]
def wsX1_isChain_r2 : List Cond := [Cond.selects RX1 yX1_isThere yX1_isThere, Cond.code yX1_isThere cX1_isThere 2 (some .boolean), Cond.methodLink RX1 58 yX1_goes, Cond.instanceMethod yX1_goes, Cond.selects RX1 yX1_goes yX1_goes, Cond.code yX1_goes cX1_goes 4 (some .boolean), Cond.fieldLink RX1 29 "FourTintsModel" "thrown" "I"]
def wsX1_isChain : List Cond := .code yX1_isChain cX1_isChain 4 (some .boolean) :: ((wsX1_isChain_r1 ++ wsX1_isChain_r2) ++ wsX10)
def wsX1_links : List Cond := .code yX1_links cX1_links 7 (some .int) :: ([.fieldLink RX1 13 "FourTintsModel" "tint" "[I", .fieldLink RX1 20 "FourTintsModel" "near" "[I", .methodLink RX1 103 yX1_isThere, .instanceMethod yX1_isThere, .selects RX1 yX1_isThere yX1_isThere, .initialized RX1, .code yX1_isThere cX1_isThere 2 (some .boolean), .fieldLink RX1 47 "FourTintsModel" "there" "I"] ++ wsX10)
def wsX1_chain_r1 : List Cond := [Cond.methodLink RX1 109 yX1_isChain, Cond.instanceMethod yX1_isChain, Cond.selects RX1 yX1_isChain yX1_isChain, Cond.initialized RX1, Cond.code yX1_isChain cX1_isChain 4 (some .boolean), Cond.fieldLink RX1 13 "FourTintsModel" "tint" "[I", Cond.methodLink RX1 66 yX1_looks, Cond.instanceMethod yX1_looks, Cond.selects RX1 yX1_looks yX1_looks, Cond.code yX1_looks cX1_looks 3 none, Cond.fieldLink RX1 47 "FourTintsModel" "there" "I", Cond.fieldLink RX1 16 "FourTintsModel" "cells" "[J", Cond.fieldLink RX1 9 "FourTintsModel" "cell" "[I", Cond.fieldLink RX1 20 "FourTintsModel" "near" "[I", Cond.methodLink RX1 43 yX1_spread, Cond.static yX1_spread, Cond.code yX1_spread cX1_spread 2 (some .long), Cond.constantLong RX1 37 (-34905131041), Cond.constantLong RX1 39 (-1090785346), Cond.constantLong RX1 41 (68719476735), Cond.methodLink RX1 54 yX1_isCountry, Cond.static yX1_isCountry, Cond.code yX1_isCountry cX1_isCountry 1 (some .boolean), Cond.methodLink RX1 33 yX1_in]
def wsX1_chain_r2 : List Cond := [Cond.static yX1_in, Cond.code yX1_in cX1_in 3 (some .boolean), Cond.methodLink RX1 103 yX1_isThere, Cond.instanceMethod yX1_isThere, Cond.selects RX1 yX1_isThere yX1_isThere, Cond.code yX1_isThere cX1_isThere 2 (some .boolean), Cond.methodLink RX1 58 yX1_goes, Cond.instanceMethod yX1_goes, Cond.selects RX1 yX1_goes yX1_goes, Cond.code yX1_goes cX1_goes 4 (some .boolean), Cond.fieldLink RX1 29 "FourTintsModel" "thrown" "I", Cond.methodLink RX1 112 yX1_links, Cond.instanceMethod yX1_links, Cond.selects RX1 yX1_links yX1_links, Cond.code yX1_links cX1_links 7 (some .int), Cond.methodLink RX1 69 yX1_bits, Cond.static yX1_bits, Cond.code yX1_bits cX1_bits 4 (some .int)]
def wsX1_chain : List Cond := .code yX1_chain cX1_chain 3 (some .int) :: ((wsX1_chain_r1 ++ wsX1_chain_r2) ++ wsX10)
def wsX1_exchange_r1 : List Cond := [Cond.fieldLink RX1 13 "FourTintsModel" "tint" "[I", Cond.methodLink RX1 109 yX1_isChain, Cond.instanceMethod yX1_isChain, Cond.selects RX1 yX1_isChain yX1_isChain, Cond.initialized RX1, Cond.code yX1_isChain cX1_isChain 4 (some .boolean), Cond.methodLink RX1 66 yX1_looks, Cond.instanceMethod yX1_looks, Cond.selects RX1 yX1_looks yX1_looks, Cond.code yX1_looks cX1_looks 3 none, Cond.fieldLink RX1 47 "FourTintsModel" "there" "I", Cond.fieldLink RX1 16 "FourTintsModel" "cells" "[J", Cond.fieldLink RX1 9 "FourTintsModel" "cell" "[I", Cond.fieldLink RX1 20 "FourTintsModel" "near" "[I", Cond.methodLink RX1 43 yX1_spread, Cond.static yX1_spread, Cond.code yX1_spread cX1_spread 2 (some .long), Cond.constantLong RX1 37 (-34905131041), Cond.constantLong RX1 39 (-1090785346), Cond.constantLong RX1 41 (68719476735), Cond.methodLink RX1 54 yX1_isCountry, Cond.static yX1_isCountry, Cond.code yX1_isCountry cX1_isCountry 1 (some .boolean), Cond.methodLink RX1 33 yX1_in]
def wsX1_exchange_r2 : List Cond := [Cond.static yX1_in, Cond.code yX1_in cX1_in 3 (some .boolean), Cond.methodLink RX1 103 yX1_isThere, Cond.instanceMethod yX1_isThere, Cond.selects RX1 yX1_isThere yX1_isThere, Cond.code yX1_isThere cX1_isThere 2 (some .boolean), Cond.methodLink RX1 58 yX1_goes, Cond.instanceMethod yX1_goes, Cond.selects RX1 yX1_goes yX1_goes, Cond.code yX1_goes cX1_goes 4 (some .boolean), Cond.fieldLink RX1 29 "FourTintsModel" "thrown" "I", Cond.methodLink RX1 112 yX1_links, Cond.instanceMethod yX1_links, Cond.selects RX1 yX1_links yX1_links, Cond.code yX1_links cX1_links 7 (some .int), Cond.methodLink RX1 69 yX1_bits, Cond.static yX1_bits, Cond.code yX1_bits cX1_bits 4 (some .int)]
def wsX1_exchange : List Cond := .code yX1_exchange cX1_exchange 6 (some .int) :: ((wsX1_exchange_r1 ++ wsX1_exchange_r2) ++ wsX10)
def wsX1_tintInOrder_r1 : List Cond := [Cond.fieldLink RX1 29 "FourTintsModel" "thrown" "I", Cond.fieldLink RX1 47 "FourTintsModel" "there" "I", Cond.fieldLink RX1 20 "FourTintsModel" "near" "[I", Cond.fieldLink RX1 13 "FourTintsModel" "tint" "[I", Cond.methodLink RX1 66 yX1_looks, Cond.instanceMethod yX1_looks, Cond.selects RX1 yX1_looks yX1_looks, Cond.initialized RX1, Cond.code yX1_looks cX1_looks 3 none, Cond.fieldLink RX1 16 "FourTintsModel" "cells" "[J", Cond.fieldLink RX1 9 "FourTintsModel" "cell" "[I", Cond.methodLink RX1 43 yX1_spread, Cond.static yX1_spread, Cond.code yX1_spread cX1_spread 2 (some .long), Cond.constantLong RX1 37 (-34905131041), Cond.constantLong RX1 39 (-1090785346), Cond.constantLong RX1 41 (68719476735), Cond.methodLink RX1 103 yX1_isThere, Cond.instanceMethod yX1_isThere, Cond.selects RX1 yX1_isThere yX1_isThere, Cond.code yX1_isThere cX1_isThere 2 (some .boolean), Cond.methodLink RX1 69 yX1_bits, Cond.static yX1_bits, Cond.code yX1_bits cX1_bits 4 (some .int)]
def wsX1_tintInOrder_r2 : List Cond := [Cond.methodLink RX1 106 yX1_least, Cond.instanceMethod yX1_least, Cond.selects RX1 yX1_least yX1_least, Cond.code yX1_least cX1_least 5 (some .int)]
def wsX1_tintInOrder : List Cond := .code yX1_tintInOrder cX1_tintInOrder 7 (some .int) :: ((wsX1_tintInOrder_r1 ++ wsX1_tintInOrder_r2) ++ wsX10)
def wsX1_begins : List Cond := .code yX1_begins cX1_begins 2 none :: ([.fieldLink RX1 23 "FourTintsModel" "ways" "[J", .methodLink RX1 66 yX1_looks, .instanceMethod yX1_looks, .selects RX1 yX1_looks yX1_looks, .initialized RX1, .code yX1_looks cX1_looks 3 none, .fieldLink RX1 47 "FourTintsModel" "there" "I", .fieldLink RX1 16 "FourTintsModel" "cells" "[J", .fieldLink RX1 9 "FourTintsModel" "cell" "[I", .fieldLink RX1 20 "FourTintsModel" "near" "[I", .methodLink RX1 43 yX1_spread, .static yX1_spread, .code yX1_spread cX1_spread 2 (some .long), .constantLong RX1 37 (-34905131041), .constantLong RX1 39 (-1090785346), .constantLong RX1 41 (68719476735)] ++ wsX10)
def wsX1_adds : List Cond := .code yX1_adds cX1_adds 4 none :: ([.fieldLink RX1 26 "FourTintsModel" "more" "[J", .fieldLink RX1 47 "FourTintsModel" "there" "I", .fieldLink RX1 23 "FourTintsModel" "ways" "[J", .methodLink RX1 95 yX1_areNear, .instanceMethod yX1_areNear, .selects RX1 yX1_areNear yX1_areNear, .initialized RX1, .code yX1_areNear cX1_areNear 6 (some .boolean), .fieldLink RX1 20 "FourTintsModel" "near" "[I"] ++ wsX10)
def wsX1_fewest_r1 : List Cond := [Cond.fieldLink RX1 23 "FourTintsModel" "ways" "[J", Cond.fieldLink RX1 47 "FourTintsModel" "there" "I", Cond.methodLink RX1 115 yX1_begins, Cond.instanceMethod yX1_begins, Cond.selects RX1 yX1_begins yX1_begins, Cond.initialized RX1, Cond.code yX1_begins cX1_begins 2 none, Cond.methodLink RX1 66 yX1_looks, Cond.instanceMethod yX1_looks, Cond.selects RX1 yX1_looks yX1_looks, Cond.code yX1_looks cX1_looks 3 none, Cond.fieldLink RX1 16 "FourTintsModel" "cells" "[J", Cond.fieldLink RX1 9 "FourTintsModel" "cell" "[I", Cond.fieldLink RX1 20 "FourTintsModel" "near" "[I", Cond.methodLink RX1 43 yX1_spread, Cond.static yX1_spread, Cond.code yX1_spread cX1_spread 2 (some .long), Cond.constantLong RX1 37 (-34905131041), Cond.constantLong RX1 39 (-1090785346), Cond.constantLong RX1 41 (68719476735), Cond.methodLink RX1 118 yX1_adds, Cond.instanceMethod yX1_adds, Cond.selects RX1 yX1_adds yX1_adds, Cond.code yX1_adds cX1_adds 4 none]
def wsX1_fewest_r2 : List Cond := [Cond.fieldLink RX1 26 "FourTintsModel" "more" "[J", Cond.methodLink RX1 95 yX1_areNear, Cond.instanceMethod yX1_areNear, Cond.selects RX1 yX1_areNear yX1_areNear, Cond.code yX1_areNear cX1_areNear 6 (some .boolean)]
def wsX1_fewest : List Cond := .code yX1_fewest cX1_fewest 2 (some .int) :: ((wsX1_fewest_r1 ++ wsX1_fewest_r2) ++ wsX10)
def wsX1_fewestTints_r1 : List Cond := [Cond.methodLink RX1 121 yX1_fewest, Cond.instanceMethod yX1_fewest, Cond.selects RX1 yX1_fewest yX1_fewest, Cond.initialized RX1, Cond.code yX1_fewest cX1_fewest 2 (some .int), Cond.fieldLink RX1 23 "FourTintsModel" "ways" "[J", Cond.fieldLink RX1 47 "FourTintsModel" "there" "I", Cond.methodLink RX1 115 yX1_begins, Cond.instanceMethod yX1_begins, Cond.selects RX1 yX1_begins yX1_begins, Cond.code yX1_begins cX1_begins 2 none, Cond.methodLink RX1 66 yX1_looks, Cond.instanceMethod yX1_looks, Cond.selects RX1 yX1_looks yX1_looks, Cond.code yX1_looks cX1_looks 3 none, Cond.fieldLink RX1 16 "FourTintsModel" "cells" "[J", Cond.fieldLink RX1 9 "FourTintsModel" "cell" "[I", Cond.fieldLink RX1 20 "FourTintsModel" "near" "[I", Cond.methodLink RX1 43 yX1_spread, Cond.static yX1_spread, Cond.code yX1_spread cX1_spread 2 (some .long), Cond.constantLong RX1 37 (-34905131041), Cond.constantLong RX1 39 (-1090785346), Cond.constantLong RX1 41 (68719476735)]
def wsX1_fewestTints_r2 : List Cond := [Cond.methodLink RX1 118 yX1_adds, Cond.instanceMethod yX1_adds, Cond.selects RX1 yX1_adds yX1_adds, Cond.code yX1_adds cX1_adds 4 none, Cond.fieldLink RX1 26 "FourTintsModel" "more" "[J", Cond.methodLink RX1 95 yX1_areNear, Cond.instanceMethod yX1_areNear, Cond.selects RX1 yX1_areNear yX1_areNear, Cond.code yX1_areNear cX1_areNear 6 (some .boolean), Cond.methodLink RX1 73 yX1_told, Cond.instanceMethod yX1_told, Cond.selects RX1 yX1_told yX1_told, Cond.code yX1_told cX1_told 2 (some .int), Cond.fieldLink RX1 29 "FourTintsModel" "thrown" "I"]
def wsX1_fewestTints : List Cond := .code yX1_fewestTints cX1_fewestTints 1 (some .int) :: ((wsX1_fewestTints_r1 ++ wsX1_fewestTints_r2) ++ wsX10)
def wsX1_isApart : List Cond := .code yX1_isApart cX1_isApart 4 (some .boolean) :: ([.fieldLink RX1 20 "FourTintsModel" "near" "[I", .fieldLink RX1 13 "FourTintsModel" "tint" "[I"] ++ wsX10)
def wsX1_next : List Cond := .code yX1_next cX1_next 4 (some .int) :: ([.methodLink RX1 33 yX1_in, .static yX1_in, .initialized RX1, .code yX1_in cX1_in 3 (some .boolean), .methodLink RX1 103 yX1_isThere, .instanceMethod yX1_isThere, .selects RX1 yX1_isThere yX1_isThere, .code yX1_isThere cX1_isThere 2 (some .boolean), .fieldLink RX1 47 "FourTintsModel" "there" "I"] ++ wsX10)
def wsX1_tintWithFewest_r1 : List Cond := [Cond.fieldLink RX1 29 "FourTintsModel" "thrown" "I", Cond.fieldLink RX1 13 "FourTintsModel" "tint" "[I", Cond.methodLink RX1 121 yX1_fewest, Cond.instanceMethod yX1_fewest, Cond.selects RX1 yX1_fewest yX1_fewest, Cond.initialized RX1, Cond.code yX1_fewest cX1_fewest 2 (some .int), Cond.fieldLink RX1 23 "FourTintsModel" "ways" "[J", Cond.fieldLink RX1 47 "FourTintsModel" "there" "I", Cond.methodLink RX1 115 yX1_begins, Cond.instanceMethod yX1_begins, Cond.selects RX1 yX1_begins yX1_begins, Cond.code yX1_begins cX1_begins 2 none, Cond.methodLink RX1 66 yX1_looks, Cond.instanceMethod yX1_looks, Cond.selects RX1 yX1_looks yX1_looks, Cond.code yX1_looks cX1_looks 3 none, Cond.fieldLink RX1 16 "FourTintsModel" "cells" "[J", Cond.fieldLink RX1 9 "FourTintsModel" "cell" "[I", Cond.fieldLink RX1 20 "FourTintsModel" "near" "[I", Cond.methodLink RX1 43 yX1_spread, Cond.static yX1_spread, Cond.code yX1_spread cX1_spread 2 (some .long), Cond.constantLong RX1 37 (-34905131041)]
def wsX1_tintWithFewest_r2 : List Cond := [Cond.constantLong RX1 39 (-1090785346), Cond.constantLong RX1 41 (68719476735), Cond.methodLink RX1 118 yX1_adds, Cond.instanceMethod yX1_adds, Cond.selects RX1 yX1_adds yX1_adds, Cond.code yX1_adds cX1_adds 4 none, Cond.fieldLink RX1 26 "FourTintsModel" "more" "[J", Cond.methodLink RX1 95 yX1_areNear, Cond.instanceMethod yX1_areNear, Cond.selects RX1 yX1_areNear yX1_areNear, Cond.code yX1_areNear cX1_areNear 6 (some .boolean), Cond.methodLink RX1 124 yX1_next, Cond.instanceMethod yX1_next, Cond.selects RX1 yX1_next yX1_next, Cond.code yX1_next cX1_next 4 (some .int), Cond.methodLink RX1 33 yX1_in, Cond.static yX1_in, Cond.code yX1_in cX1_in 3 (some .boolean), Cond.methodLink RX1 103 yX1_isThere, Cond.instanceMethod yX1_isThere, Cond.selects RX1 yX1_isThere yX1_isThere, Cond.code yX1_isThere cX1_isThere 2 (some .boolean), Cond.methodLink RX1 127 yX1_isApart, Cond.instanceMethod yX1_isApart]
def wsX1_tintWithFewest_r3 : List Cond := [Cond.selects RX1 yX1_isApart yX1_isApart, Cond.code yX1_isApart cX1_isApart 4 (some .boolean)]
def wsX1_tintWithFewest : List Cond := .code yX1_tintWithFewest cX1_tintWithFewest 4 (some .int) :: ((wsX1_tintWithFewest_r1 ++ (wsX1_tintWithFewest_r2 ++ wsX1_tintWithFewest_r3)) ++ wsX10)
def wsX1_count_r1 : List Cond := [Cond.fieldLink RX1 23 "FourTintsModel" "ways" "[J", Cond.fieldLink RX1 47 "FourTintsModel" "there" "I", Cond.methodLink RX1 33 yX1_in, Cond.static yX1_in, Cond.initialized RX1, Cond.code yX1_in cX1_in 3 (some .boolean), Cond.methodLink RX1 58 yX1_goes, Cond.instanceMethod yX1_goes, Cond.selects RX1 yX1_goes yX1_goes, Cond.code yX1_goes cX1_goes 4 (some .boolean), Cond.fieldLink RX1 29 "FourTintsModel" "thrown" "I", Cond.methodLink RX1 115 yX1_begins, Cond.instanceMethod yX1_begins, Cond.selects RX1 yX1_begins yX1_begins, Cond.code yX1_begins cX1_begins 2 none, Cond.methodLink RX1 66 yX1_looks, Cond.instanceMethod yX1_looks, Cond.selects RX1 yX1_looks yX1_looks, Cond.code yX1_looks cX1_looks 3 none, Cond.fieldLink RX1 16 "FourTintsModel" "cells" "[J", Cond.fieldLink RX1 9 "FourTintsModel" "cell" "[I", Cond.fieldLink RX1 20 "FourTintsModel" "near" "[I", Cond.methodLink RX1 43 yX1_spread, Cond.static yX1_spread]
def wsX1_count_r2 : List Cond := [Cond.code yX1_spread cX1_spread 2 (some .long), Cond.constantLong RX1 37 (-34905131041), Cond.constantLong RX1 39 (-1090785346), Cond.constantLong RX1 41 (68719476735), Cond.methodLink RX1 118 yX1_adds, Cond.instanceMethod yX1_adds, Cond.selects RX1 yX1_adds yX1_adds, Cond.code yX1_adds cX1_adds 4 none, Cond.fieldLink RX1 26 "FourTintsModel" "more" "[J", Cond.methodLink RX1 95 yX1_areNear, Cond.instanceMethod yX1_areNear, Cond.selects RX1 yX1_areNear yX1_areNear, Cond.code yX1_areNear cX1_areNear 6 (some .boolean)]
def wsX1_count : List Cond := .code yX1_count cX1_count 3 (some .long) :: ((wsX1_count_r1 ++ wsX1_count_r2) ++ wsX10)
def wsX1_tintings_r1 : List Cond := [Cond.methodLink RX1 130 yX1_count, Cond.instanceMethod yX1_count, Cond.selects RX1 yX1_count yX1_count, Cond.initialized RX1, Cond.code yX1_count cX1_count 3 (some .long), Cond.fieldLink RX1 23 "FourTintsModel" "ways" "[J", Cond.fieldLink RX1 47 "FourTintsModel" "there" "I", Cond.methodLink RX1 33 yX1_in, Cond.static yX1_in, Cond.code yX1_in cX1_in 3 (some .boolean), Cond.methodLink RX1 58 yX1_goes, Cond.instanceMethod yX1_goes, Cond.selects RX1 yX1_goes yX1_goes, Cond.code yX1_goes cX1_goes 4 (some .boolean), Cond.fieldLink RX1 29 "FourTintsModel" "thrown" "I", Cond.methodLink RX1 115 yX1_begins, Cond.instanceMethod yX1_begins, Cond.selects RX1 yX1_begins yX1_begins, Cond.code yX1_begins cX1_begins 2 none, Cond.methodLink RX1 66 yX1_looks, Cond.instanceMethod yX1_looks, Cond.selects RX1 yX1_looks yX1_looks, Cond.code yX1_looks cX1_looks 3 none, Cond.fieldLink RX1 16 "FourTintsModel" "cells" "[J"]
def wsX1_tintings_r2 : List Cond := [Cond.fieldLink RX1 9 "FourTintsModel" "cell" "[I", Cond.fieldLink RX1 20 "FourTintsModel" "near" "[I", Cond.methodLink RX1 43 yX1_spread, Cond.static yX1_spread, Cond.code yX1_spread cX1_spread 2 (some .long), Cond.constantLong RX1 37 (-34905131041), Cond.constantLong RX1 39 (-1090785346), Cond.constantLong RX1 41 (68719476735), Cond.methodLink RX1 118 yX1_adds, Cond.instanceMethod yX1_adds, Cond.selects RX1 yX1_adds yX1_adds, Cond.code yX1_adds cX1_adds 4 none, Cond.fieldLink RX1 26 "FourTintsModel" "more" "[J", Cond.methodLink RX1 95 yX1_areNear, Cond.instanceMethod yX1_areNear, Cond.selects RX1 yX1_areNear yX1_areNear, Cond.code yX1_areNear cX1_areNear 6 (some .boolean)]
def wsX1_tintings : List Cond := .code yX1_tintings cX1_tintings 2 (some .long) :: ((wsX1_tintings_r1 ++ wsX1_tintings_r2) ++ wsX10)
def wsX1_tintingsByPairs_r1 : List Cond := [Cond.methodLink RX1 130 yX1_count, Cond.instanceMethod yX1_count, Cond.selects RX1 yX1_count yX1_count, Cond.initialized RX1, Cond.code yX1_count cX1_count 3 (some .long), Cond.fieldLink RX1 23 "FourTintsModel" "ways" "[J", Cond.fieldLink RX1 47 "FourTintsModel" "there" "I", Cond.methodLink RX1 33 yX1_in, Cond.static yX1_in, Cond.code yX1_in cX1_in 3 (some .boolean), Cond.methodLink RX1 58 yX1_goes, Cond.instanceMethod yX1_goes, Cond.selects RX1 yX1_goes yX1_goes, Cond.code yX1_goes cX1_goes 4 (some .boolean), Cond.fieldLink RX1 29 "FourTintsModel" "thrown" "I", Cond.methodLink RX1 115 yX1_begins, Cond.instanceMethod yX1_begins, Cond.selects RX1 yX1_begins yX1_begins, Cond.code yX1_begins cX1_begins 2 none, Cond.methodLink RX1 66 yX1_looks, Cond.instanceMethod yX1_looks, Cond.selects RX1 yX1_looks yX1_looks, Cond.code yX1_looks cX1_looks 3 none, Cond.fieldLink RX1 16 "FourTintsModel" "cells" "[J"]
def wsX1_tintingsByPairs_r2 : List Cond := [Cond.fieldLink RX1 9 "FourTintsModel" "cell" "[I", Cond.fieldLink RX1 20 "FourTintsModel" "near" "[I", Cond.methodLink RX1 43 yX1_spread, Cond.static yX1_spread, Cond.code yX1_spread cX1_spread 2 (some .long), Cond.constantLong RX1 37 (-34905131041), Cond.constantLong RX1 39 (-1090785346), Cond.constantLong RX1 41 (68719476735), Cond.methodLink RX1 118 yX1_adds, Cond.instanceMethod yX1_adds, Cond.selects RX1 yX1_adds yX1_adds, Cond.code yX1_adds cX1_adds 4 none, Cond.fieldLink RX1 26 "FourTintsModel" "more" "[J", Cond.methodLink RX1 95 yX1_areNear, Cond.instanceMethod yX1_areNear, Cond.selects RX1 yX1_areNear yX1_areNear, Cond.code yX1_areNear cX1_areNear 6 (some .boolean)]
def wsX1_tintingsByPairs : List Cond := .code yX1_tintingsByPairs cX1_tintingsByPairs 2 (some .long) :: ((wsX1_tintingsByPairs_r1 ++ wsX1_tintingsByPairs_r2) ++ wsX10)
def wsJ9_max_7cf53 : List Cond := .code yJ9_max_7cf53 cJ9_max_7cf53 2 (some .int) :: ([])
def wsL_paint_r1 : List Cond := [Cond.classLink RL 13 "java/lang/IndexOutOfBoundsException", Cond.classLink RL 15 "java/lang/IllegalArgumentException", Cond.methodLink RL 7 yX0_paint, Cond.instanceMethod yX0_paint, Cond.selects RX0 yX0_paint yX0_paint, Cond.initialized RX0, Cond.code yX0_paint cX0_paint 7 (some .int), Cond.methodLink RX0 39 yX0_checkCell, Cond.static yX0_checkCell, Cond.code yX0_checkCell cX0_checkCell 2 none, Cond.classLink RX0 178 "java/lang/IndexOutOfBoundsException", Cond.initialized "java/lang/IndexOutOfBoundsException", Cond.methodLink RX0 43 yX0_checkPaint, Cond.static yX0_checkPaint, Cond.code yX0_checkPaint cX0_checkPaint 1 none, Cond.classLink RX0 59 "java/lang/IllegalArgumentException", Cond.initialized "java/lang/IllegalArgumentException", Cond.methodLink RX0 47 yX0_block, Cond.static yX0_block, Cond.code yX0_block cX0_block 8 (some .long), Cond.methodLink RX0 51 yX0_ownerOf, Cond.instanceMethod yX0_ownerOf, Cond.selects RX0 yX0_ownerOf yX0_ownerOf, Cond.code yX0_ownerOf cX0_ownerOf 4 (some .int)]
def wsL_paint_r2 : List Cond := [Cond.fieldLink RX0 9 "FourTints" "land" "[J", Cond.methodLink RX0 55 yX0_cover, Cond.instanceMethod yX0_cover, Cond.selects RX0 yX0_cover yX0_cover, Cond.code yX0_cover cX0_cover 5 none, Cond.constantLong RX0 70 (-1), Cond.methodLink RX0 203 yX0_findNeighbours, Cond.instanceMethod yX0_findNeighbours, Cond.selects RX0 yX0_findNeighbours yX0_findNeighbours, Cond.code yX0_findNeighbours cX0_findNeighbours 2 none, Cond.fieldLink RX0 13 "FourTints" "there" "I", Cond.fieldLink RX0 17 "FourTints" "near" "[I", Cond.methodLink RX0 200 yX0_spread, Cond.static yX0_spread, Cond.code yX0_spread cX0_spread 2 (some .long), Cond.methodLink RX0 98 yX0_above, Cond.static yX0_above, Cond.code yX0_above cX0_above 2 (some .long), Cond.methodLink RX0 101 yX0_below, Cond.static yX0_below, Cond.code yX0_below cX0_below 2 (some .long), Cond.constantLong RX0 110 (68719476735), Cond.methodLink RX0 104 yX0_leftOf, Cond.static yX0_leftOf]
def wsL_paint_r3 : List Cond := [Cond.code yX0_leftOf cX0_leftOf 2 (some .long), Cond.constantLong RX0 196 (-1090785346), Cond.methodLink RX0 107 yX0_rightOf, Cond.static yX0_rightOf, Cond.code yX0_rightOf cX0_rightOf 2 (some .long), Cond.constantLong RX0 198 (-34905131041), Cond.methodLink RX0 206 yX0_thoseIn, Cond.instanceMethod yX0_thoseIn, Cond.selects RX0 yX0_thoseIn yX0_thoseIn, Cond.code yX0_thoseIn cX0_thoseIn 5 (some .int)]
def wsL_paint : List Cond := .codeWith yL_paint cL_paint 6 (some .int) [(0, 12, 15, 13), (0, 12, 19, 15)] :: ((wsL_paint_r1 ++ (wsL_paint_r2 ++ wsL_paint_r3)) ++ wsX00 ++ (vx_atS RX0 182 "java/lang/IndexOutOfBoundsException" ["java/lang/RuntimeException", "java/lang/Exception"]).filter goodWord ++ (vx_atS RX0 63 "java/lang/IllegalArgumentException" ["java/lang/RuntimeException", "java/lang/Exception"]).filter goodWord)
def wsL_paintBlock_r1 : List Cond := [Cond.classLink RL 13 "java/lang/IndexOutOfBoundsException", Cond.classLink RL 15 "java/lang/IllegalArgumentException", Cond.methodLink RL 17 yX0_paintBlock, Cond.instanceMethod yX0_paintBlock, Cond.selects RX0 yX0_paintBlock yX0_paintBlock, Cond.initialized RX0, Cond.code yX0_paintBlock cX0_paintBlock 9 (some .int), Cond.classLink RX0 59 "java/lang/IllegalArgumentException", Cond.initialized "java/lang/IllegalArgumentException", Cond.constantLong RX0 70 (-1), Cond.methodLink RX0 39 yX0_checkCell, Cond.static yX0_checkCell, Cond.code yX0_checkCell cX0_checkCell 2 none, Cond.classLink RX0 178 "java/lang/IndexOutOfBoundsException", Cond.initialized "java/lang/IndexOutOfBoundsException", Cond.methodLink RX0 43 yX0_checkPaint, Cond.static yX0_checkPaint, Cond.code yX0_checkPaint cX0_checkPaint 1 none, Cond.methodLink RX0 47 yX0_block, Cond.static yX0_block, Cond.code yX0_block cX0_block 8 (some .long), Cond.methodLink RX0 66 yX0_cellsOf, Cond.instanceMethod yX0_cellsOf, Cond.selects RX0 yX0_cellsOf yX0_cellsOf]
def wsL_paintBlock_r2 : List Cond := [Cond.code yX0_cellsOf cX0_cellsOf 5 (some .long), Cond.fieldLink RX0 9 "FourTints" "land" "[J", Cond.constantLong RX0 110 (68719476735), Cond.methodLink RX0 72 yJ13_bitCount_95d88, Cond.static yJ13_bitCount_95d88, Cond.initialized RJ13, Cond.code yJ13_bitCount_95d88 cJ13_bitCount_95d88 2 (some .int), Cond.constantLong RJ13 314 (6148914691236517205), Cond.constantLong RJ13 316 (3689348814741910323), Cond.constantLong RJ13 318 (1085102592571150095), Cond.methodLink RX0 55 yX0_cover, Cond.instanceMethod yX0_cover, Cond.selects RX0 yX0_cover yX0_cover, Cond.code yX0_cover cX0_cover 5 none, Cond.methodLink RX0 203 yX0_findNeighbours, Cond.instanceMethod yX0_findNeighbours, Cond.selects RX0 yX0_findNeighbours yX0_findNeighbours, Cond.code yX0_findNeighbours cX0_findNeighbours 2 none, Cond.fieldLink RX0 13 "FourTints" "there" "I", Cond.fieldLink RX0 17 "FourTints" "near" "[I", Cond.methodLink RX0 200 yX0_spread, Cond.static yX0_spread, Cond.code yX0_spread cX0_spread 2 (some .long), Cond.methodLink RX0 98 yX0_above]
def wsL_paintBlock_r3 : List Cond := [Cond.static yX0_above, Cond.code yX0_above cX0_above 2 (some .long), Cond.methodLink RX0 101 yX0_below, Cond.static yX0_below, Cond.code yX0_below cX0_below 2 (some .long), Cond.methodLink RX0 104 yX0_leftOf, Cond.static yX0_leftOf, Cond.code yX0_leftOf cX0_leftOf 2 (some .long), Cond.constantLong RX0 196 (-1090785346), Cond.methodLink RX0 107 yX0_rightOf, Cond.static yX0_rightOf, Cond.code yX0_rightOf cX0_rightOf 2 (some .long), Cond.constantLong RX0 198 (-34905131041), Cond.methodLink RX0 206 yX0_thoseIn, Cond.instanceMethod yX0_thoseIn, Cond.selects RX0 yX0_thoseIn yX0_thoseIn, Cond.code yX0_thoseIn cX0_thoseIn 5 (some .int)]
def wsL_paintBlock : List Cond := .codeWith yL_paintBlock cL_paintBlock 8 (some .int) [(0, 16, 19, 13), (0, 16, 23, 15)] :: ((wsL_paintBlock_r1 ++ (wsL_paintBlock_r2 ++ wsL_paintBlock_r3)) ++ wsX00 ++ (vx_atS RX0 63 "java/lang/IllegalArgumentException" ["java/lang/RuntimeException", "java/lang/Exception"]).filter goodWord ++ (vx_atS RX0 182 "java/lang/IndexOutOfBoundsException" ["java/lang/RuntimeException", "java/lang/Exception"]).filter goodWord)
def wsL_countryAt : List Cond := .codeWith yL_countryAt cL_countryAt 5 (some .int) [(0, 10, 13, 13)] :: ([.classLink RL 13 "java/lang/IndexOutOfBoundsException", .methodLink RL 21 yX0_countryAt, .instanceMethod yX0_countryAt, .selects RX0 yX0_countryAt yX0_countryAt, .initialized RX0, .code yX0_countryAt cX0_countryAt 3 (some .int), .methodLink RX0 39 yX0_checkCell, .static yX0_checkCell, .code yX0_checkCell cX0_checkCell 2 none, .classLink RX0 178 "java/lang/IndexOutOfBoundsException", .initialized "java/lang/IndexOutOfBoundsException", .methodLink RX0 47 yX0_block, .static yX0_block, .code yX0_block cX0_block 8 (some .long), .methodLink RX0 51 yX0_ownerOf, .instanceMethod yX0_ownerOf, .selects RX0 yX0_ownerOf yX0_ownerOf, .code yX0_ownerOf cX0_ownerOf 4 (some .int), .fieldLink RX0 9 "FourTints" "land" "[J"] ++ wsX00 ++ (vx_atS RX0 182 "java/lang/IndexOutOfBoundsException" ["java/lang/RuntimeException", "java/lang/Exception"]).filter goodWord)
def wsL_area : List Cond := .codeWith yL_area cL_area 4 (some .int) [(0, 9, 12, 13)] :: ([.classLink RL 13 "java/lang/IndexOutOfBoundsException", .methodLink RL 25 yX0_area, .instanceMethod yX0_area, .selects RX0 yX0_area yX0_area, .initialized RX0, .code yX0_area cX0_area 2 (some .int), .fieldLink RX0 9 "FourTints" "land" "[J", .methodLink RX0 82 yX0_checkCountry, .static yX0_checkCountry, .code yX0_checkCountry cX0_checkCountry 1 none, .classLink RX0 178 "java/lang/IndexOutOfBoundsException", .initialized "java/lang/IndexOutOfBoundsException", .methodLink RX0 72 yJ13_bitCount_95d88, .static yJ13_bitCount_95d88, .initialized RJ13, .code yJ13_bitCount_95d88 cJ13_bitCount_95d88 2 (some .int), .constantLong RJ13 314 (6148914691236517205), .constantLong RJ13 316 (3689348814741910323), .constantLong RJ13 318 (1085102592571150095)] ++ wsX00 ++ (vx_atS RX0 182 "java/lang/IndexOutOfBoundsException" ["java/lang/RuntimeException", "java/lang/Exception"]).filter goodWord)
def wsL_pieces_r1 : List Cond := [Cond.classLink RL 13 "java/lang/IndexOutOfBoundsException", Cond.methodLink RL 29 yX0_pieces, Cond.instanceMethod yX0_pieces, Cond.selects RX0 yX0_pieces yX0_pieces, Cond.initialized RX0, Cond.code yX0_pieces cX0_pieces 2 (some .int), Cond.fieldLink RX0 9 "FourTints" "land" "[J", Cond.methodLink RX0 82 yX0_checkCountry, Cond.static yX0_checkCountry, Cond.code yX0_checkCountry cX0_checkCountry 1 none, Cond.classLink RX0 178 "java/lang/IndexOutOfBoundsException", Cond.initialized "java/lang/IndexOutOfBoundsException", Cond.methodLink RX0 85 yX0_countPieces, Cond.static yX0_countPieces, Cond.code yX0_countPieces cX0_countPieces 5 (some .int), Cond.constantLong RX0 70 (-1), Cond.methodLink RX0 88 yX0_pieceIn, Cond.static yX0_pieceIn, Cond.code yX0_pieceIn cX0_pieceIn 2 (some .long), Cond.methodLink RX0 114 yX0_reach, Cond.static yX0_reach, Cond.code yX0_reach cX0_reach 9 (some .long), Cond.methodLink RX0 200 yX0_spread, Cond.static yX0_spread]
def wsL_pieces_r2 : List Cond := [Cond.code yX0_spread cX0_spread 2 (some .long), Cond.methodLink RX0 98 yX0_above, Cond.static yX0_above, Cond.code yX0_above cX0_above 2 (some .long), Cond.methodLink RX0 101 yX0_below, Cond.static yX0_below, Cond.code yX0_below cX0_below 2 (some .long), Cond.constantLong RX0 110 (68719476735), Cond.methodLink RX0 104 yX0_leftOf, Cond.static yX0_leftOf, Cond.code yX0_leftOf cX0_leftOf 2 (some .long), Cond.constantLong RX0 196 (-1090785346), Cond.methodLink RX0 107 yX0_rightOf, Cond.static yX0_rightOf, Cond.code yX0_rightOf cX0_rightOf 2 (some .long), Cond.constantLong RX0 198 (-34905131041)]
def wsL_pieces : List Cond := .codeWith yL_pieces cL_pieces 4 (some .int) [(0, 9, 12, 13)] :: ((wsL_pieces_r1 ++ wsL_pieces_r2) ++ wsX00 ++ (vx_atS RX0 182 "java/lang/IndexOutOfBoundsException" ["java/lang/RuntimeException", "java/lang/Exception"]).filter goodWord)
def wsL_largestPiece_r1 : List Cond := [Cond.classLink RL 13 "java/lang/IndexOutOfBoundsException", Cond.methodLink RL 32 yX0_largestPiece, Cond.instanceMethod yX0_largestPiece, Cond.selects RX0 yX0_largestPiece yX0_largestPiece, Cond.initialized RX0, Cond.code yX0_largestPiece cX0_largestPiece 8 (some .int), Cond.fieldLink RX0 9 "FourTints" "land" "[J", Cond.methodLink RX0 92 Lib.Math.max.name, Cond.static Lib.Math.max.name, Cond.initialized "java/lang/Math", Cond.code Lib.Math.max.name Lib.Math.max.code 2 (some .int), Cond.constantLong RX0 70 (-1), Cond.methodLink RX0 82 yX0_checkCountry, Cond.static yX0_checkCountry, Cond.code yX0_checkCountry cX0_checkCountry 1 none, Cond.classLink RX0 178 "java/lang/IndexOutOfBoundsException", Cond.initialized "java/lang/IndexOutOfBoundsException", Cond.methodLink RX0 88 yX0_pieceIn, Cond.static yX0_pieceIn, Cond.code yX0_pieceIn cX0_pieceIn 2 (some .long), Cond.methodLink RX0 114 yX0_reach, Cond.static yX0_reach, Cond.code yX0_reach cX0_reach 9 (some .long), Cond.methodLink RX0 200 yX0_spread]
def wsL_largestPiece_r2 : List Cond := [Cond.static yX0_spread, Cond.code yX0_spread cX0_spread 2 (some .long), Cond.methodLink RX0 98 yX0_above, Cond.static yX0_above, Cond.code yX0_above cX0_above 2 (some .long), Cond.methodLink RX0 101 yX0_below, Cond.static yX0_below, Cond.code yX0_below cX0_below 2 (some .long), Cond.constantLong RX0 110 (68719476735), Cond.methodLink RX0 104 yX0_leftOf, Cond.static yX0_leftOf, Cond.code yX0_leftOf cX0_leftOf 2 (some .long), Cond.constantLong RX0 196 (-1090785346), Cond.methodLink RX0 107 yX0_rightOf, Cond.static yX0_rightOf, Cond.code yX0_rightOf cX0_rightOf 2 (some .long), Cond.constantLong RX0 198 (-34905131041), Cond.methodLink RX0 72 yJ13_bitCount_95d88, Cond.static yJ13_bitCount_95d88, Cond.initialized RJ13, Cond.code yJ13_bitCount_95d88 cJ13_bitCount_95d88 2 (some .int), Cond.constantLong RJ13 314 (6148914691236517205), Cond.constantLong RJ13 316 (3689348814741910323), Cond.constantLong RJ13 318 (1085102592571150095)]
def wsL_largestPiece : List Cond := .codeWith yL_largestPiece cL_largestPiece 4 (some .int) [(0, 9, 12, 13)] :: ((wsL_largestPiece_r1 ++ wsL_largestPiece_r2) ++ wsX00 ++ (vx_atS RX0 182 "java/lang/IndexOutOfBoundsException" ["java/lang/RuntimeException", "java/lang/Exception"]).filter goodWord)
def wsL_neighbours : List Cond := .codeWith yL_neighbours cL_neighbours 4 (some .int) [(0, 9, 12, 13)] :: ([.classLink RL 13 "java/lang/IndexOutOfBoundsException", .methodLink RL 35 yX0_neighbours, .instanceMethod yX0_neighbours, .selects RX0 yX0_neighbours yX0_neighbours, .initialized RX0, .code yX0_neighbours cX0_neighbours 2 (some .int), .fieldLink RX0 17 "FourTints" "near" "[I", .methodLink RX0 82 yX0_checkCountry, .static yX0_checkCountry, .code yX0_checkCountry cX0_checkCountry 1 none, .classLink RX0 178 "java/lang/IndexOutOfBoundsException", .initialized "java/lang/IndexOutOfBoundsException", .methodLink RX0 77 yJ6_bitCount_0f7a4, .static yJ6_bitCount_0f7a4, .initialized RJ6, .code yJ6_bitCount_0f7a4 cJ6_bitCount_0f7a4 1 (some .int), .constant RJ6 265 (1431655765), .constant RJ6 266 (858993459), .constant RJ6 267 (252645135)] ++ wsX00 ++ (vx_atS RX0 182 "java/lang/IndexOutOfBoundsException" ["java/lang/RuntimeException", "java/lang/Exception"]).filter goodWord)
def wsL_border_r1 : List Cond := [Cond.classLink RL 13 "java/lang/IndexOutOfBoundsException", Cond.methodLink RL 38 yX0_border, Cond.instanceMethod yX0_border, Cond.selects RX0 yX0_border yX0_border, Cond.initialized RX0, Cond.code yX0_border cX0_border 7 (some .int), Cond.fieldLink RX0 9 "FourTints" "land" "[J", Cond.methodLink RX0 82 yX0_checkCountry, Cond.static yX0_checkCountry, Cond.code yX0_checkCountry cX0_checkCountry 1 none, Cond.classLink RX0 178 "java/lang/IndexOutOfBoundsException", Cond.initialized "java/lang/IndexOutOfBoundsException", Cond.methodLink RX0 98 yX0_above, Cond.static yX0_above, Cond.code yX0_above cX0_above 2 (some .long), Cond.methodLink RX0 72 yJ13_bitCount_95d88, Cond.static yJ13_bitCount_95d88, Cond.initialized RJ13, Cond.code yJ13_bitCount_95d88 cJ13_bitCount_95d88 2 (some .int), Cond.constantLong RJ13 314 (6148914691236517205), Cond.constantLong RJ13 316 (3689348814741910323), Cond.constantLong RJ13 318 (1085102592571150095), Cond.methodLink RX0 101 yX0_below, Cond.static yX0_below]
def wsL_border_r2 : List Cond := [Cond.code yX0_below cX0_below 2 (some .long), Cond.constantLong RX0 110 (68719476735), Cond.methodLink RX0 104 yX0_leftOf, Cond.static yX0_leftOf, Cond.code yX0_leftOf cX0_leftOf 2 (some .long), Cond.constantLong RX0 196 (-1090785346), Cond.methodLink RX0 107 yX0_rightOf, Cond.static yX0_rightOf, Cond.code yX0_rightOf cX0_rightOf 2 (some .long), Cond.constantLong RX0 198 (-34905131041)]
def wsL_border : List Cond := .codeWith yL_border cL_border 5 (some .int) [(0, 10, 13, 13)] :: ((wsL_border_r1 ++ wsL_border_r2) ++ wsX00 ++ (vx_atS RX0 182 "java/lang/IndexOutOfBoundsException" ["java/lang/RuntimeException", "java/lang/Exception"]).filter goodWord)
def wsL_enclosed_r1 : List Cond := [Cond.classLink RL 13 "java/lang/IndexOutOfBoundsException", Cond.methodLink RL 41 yX0_enclosed, Cond.instanceMethod yX0_enclosed, Cond.selects RX0 yX0_enclosed yX0_enclosed, Cond.initialized RX0, Cond.code yX0_enclosed cX0_enclosed 6 (some .int), Cond.constantLong RX0 110 (68719476735), Cond.fieldLink RX0 9 "FourTints" "land" "[J", Cond.constantLong RX0 70 (-1), Cond.constantLong RX0 112 (68208171135), Cond.methodLink RX0 82 yX0_checkCountry, Cond.static yX0_checkCountry, Cond.code yX0_checkCountry cX0_checkCountry 1 none, Cond.classLink RX0 178 "java/lang/IndexOutOfBoundsException", Cond.initialized "java/lang/IndexOutOfBoundsException", Cond.methodLink RX0 114 yX0_reach, Cond.static yX0_reach, Cond.code yX0_reach cX0_reach 9 (some .long), Cond.methodLink RX0 200 yX0_spread, Cond.static yX0_spread, Cond.code yX0_spread cX0_spread 2 (some .long), Cond.methodLink RX0 98 yX0_above, Cond.static yX0_above, Cond.code yX0_above cX0_above 2 (some .long)]
def wsL_enclosed_r2 : List Cond := [Cond.methodLink RX0 101 yX0_below, Cond.static yX0_below, Cond.code yX0_below cX0_below 2 (some .long), Cond.methodLink RX0 104 yX0_leftOf, Cond.static yX0_leftOf, Cond.code yX0_leftOf cX0_leftOf 2 (some .long), Cond.constantLong RX0 196 (-1090785346), Cond.methodLink RX0 107 yX0_rightOf, Cond.static yX0_rightOf, Cond.code yX0_rightOf cX0_rightOf 2 (some .long), Cond.constantLong RX0 198 (-34905131041), Cond.methodLink RX0 72 yJ13_bitCount_95d88, Cond.static yJ13_bitCount_95d88, Cond.initialized RJ13, Cond.code yJ13_bitCount_95d88 cJ13_bitCount_95d88 2 (some .int), Cond.constantLong RJ13 314 (6148914691236517205), Cond.constantLong RJ13 316 (3689348814741910323), Cond.constantLong RJ13 318 (1085102592571150095)]
def wsL_enclosed : List Cond := .codeWith yL_enclosed cL_enclosed 4 (some .int) [(0, 9, 12, 13)] :: ((wsL_enclosed_r1 ++ wsL_enclosed_r2) ++ wsX00 ++ (vx_atS RX0 182 "java/lang/IndexOutOfBoundsException" ["java/lang/RuntimeException", "java/lang/Exception"]).filter goodWord)
def wsL_tint : List Cond := .codeWith yL_tint cL_tint 5 (some .int) [(0, 10, 13, 13), (0, 10, 17, 15)] :: ([.classLink RL 13 "java/lang/IndexOutOfBoundsException", .classLink RL 15 "java/lang/IllegalArgumentException", .methodLink RL 44 yX0_tint, .instanceMethod yX0_tint, .selects RX0 yX0_tint yX0_tint, .initialized RX0, .code yX0_tint cX0_tint 4 (some .int), .fieldLink RX0 21 "FourTints" "worn" "[I", .methodLink RX0 82 yX0_checkCountry, .static yX0_checkCountry, .code yX0_checkCountry cX0_checkCountry 1 none, .classLink RX0 178 "java/lang/IndexOutOfBoundsException", .initialized "java/lang/IndexOutOfBoundsException", .methodLink RX0 121 yX0_checkTint, .static yX0_checkTint, .code yX0_checkTint cX0_checkTint 1 none, .classLink RX0 59 "java/lang/IllegalArgumentException", .initialized "java/lang/IllegalArgumentException"] ++ wsX00 ++ (vx_atS RX0 182 "java/lang/IndexOutOfBoundsException" ["java/lang/RuntimeException", "java/lang/Exception"]).filter goodWord ++ (vx_atS RX0 63 "java/lang/IllegalArgumentException" ["java/lang/RuntimeException", "java/lang/Exception"]).filter goodWord)
def wsL_tintOf : List Cond := .codeWith yL_tintOf cL_tintOf 4 (some .int) [(0, 9, 12, 13)] :: ([.classLink RL 13 "java/lang/IndexOutOfBoundsException", .methodLink RL 47 yX0_tintOf, .instanceMethod yX0_tintOf, .selects RX0 yX0_tintOf yX0_tintOf, .initialized RX0, .code yX0_tintOf cX0_tintOf 2 (some .int), .fieldLink RX0 21 "FourTints" "worn" "[I", .methodLink RX0 82 yX0_checkCountry, .static yX0_checkCountry, .code yX0_checkCountry cX0_checkCountry 1 none, .classLink RX0 178 "java/lang/IndexOutOfBoundsException", .initialized "java/lang/IndexOutOfBoundsException"] ++ wsX00 ++ (vx_atS RX0 182 "java/lang/IndexOutOfBoundsException" ["java/lang/RuntimeException", "java/lang/Exception"]).filter goodWord)
def wsL_leastFree : List Cond := .codeWith yL_leastFree cL_leastFree 4 (some .int) [(0, 9, 12, 13)] :: ([.classLink RL 13 "java/lang/IndexOutOfBoundsException", .methodLink RL 50 yX0_leastFree, .instanceMethod yX0_leastFree, .selects RX0 yX0_leastFree yX0_leastFree, .initialized RX0, .code yX0_leastFree cX0_leastFree 2 (some .int), .fieldLink RX0 17 "FourTints" "near" "[I", .methodLink RX0 82 yX0_checkCountry, .static yX0_checkCountry, .code yX0_checkCountry cX0_checkCountry 1 none, .classLink RX0 178 "java/lang/IndexOutOfBoundsException", .initialized "java/lang/IndexOutOfBoundsException", .methodLink RX0 131 yX0_leastFreeBeside, .instanceMethod yX0_leastFreeBeside, .selects RX0 yX0_leastFreeBeside yX0_leastFreeBeside, .code yX0_leastFreeBeside cX0_leastFreeBeside 3 (some .int), .methodLink RX0 124 yX0_wearing, .instanceMethod yX0_wearing, .selects RX0 yX0_wearing yX0_wearing, .code yX0_wearing cX0_wearing 4 (some .int), .fieldLink RX0 21 "FourTints" "worn" "[I"] ++ wsX00 ++ (vx_atS RX0 182 "java/lang/IndexOutOfBoundsException" ["java/lang/RuntimeException", "java/lang/Exception"]).filter goodWord)
def wsL_chain_r1 : List Cond := [Cond.classLink RL 13 "java/lang/IndexOutOfBoundsException", Cond.classLink RL 15 "java/lang/IllegalArgumentException", Cond.classLink RL 56 "java/lang/IllegalStateException", Cond.methodLink RL 53 yX0_chain, Cond.instanceMethod yX0_chain, Cond.selects RX0 yX0_chain yX0_chain, Cond.initialized RX0, Cond.code yX0_chain cX0_chain 3 (some .int), Cond.methodLink RX0 82 yX0_checkCountry, Cond.static yX0_checkCountry, Cond.code yX0_checkCountry cX0_checkCountry 1 none, Cond.classLink RX0 178 "java/lang/IndexOutOfBoundsException", Cond.initialized "java/lang/IndexOutOfBoundsException", Cond.methodLink RX0 121 yX0_checkTint, Cond.static yX0_checkTint, Cond.code yX0_checkTint cX0_checkTint 1 none, Cond.classLink RX0 59 "java/lang/IllegalArgumentException", Cond.initialized "java/lang/IllegalArgumentException", Cond.methodLink RX0 134 yX0_checkTinted, Cond.instanceMethod yX0_checkTinted, Cond.selects RX0 yX0_checkTinted yX0_checkTinted, Cond.code yX0_checkTinted cX0_checkTinted 2 none, Cond.classLink RX0 191 "java/lang/IllegalStateException", Cond.initialized "java/lang/IllegalStateException"]
def wsL_chain_r2 : List Cond := [Cond.fieldLink RX0 13 "FourTints" "there" "I", Cond.fieldLink RX0 21 "FourTints" "worn" "[I", Cond.methodLink RX0 140 yX0_has, Cond.static yX0_has, Cond.code yX0_has cX0_has 2 (some .boolean), Cond.methodLink RX0 137 yX0_chainOf, Cond.instanceMethod yX0_chainOf, Cond.selects RX0 yX0_chainOf yX0_chainOf, Cond.code yX0_chainOf cX0_chainOf 8 (some .int), Cond.fieldLink RX0 17 "FourTints" "near" "[I", Cond.methodLink RX0 124 yX0_wearing, Cond.instanceMethod yX0_wearing, Cond.selects RX0 yX0_wearing yX0_wearing, Cond.code yX0_wearing cX0_wearing 4 (some .int), Cond.methodLink RX0 77 yJ6_bitCount_0f7a4, Cond.static yJ6_bitCount_0f7a4, Cond.initialized RJ6, Cond.code yJ6_bitCount_0f7a4 cJ6_bitCount_0f7a4 1 (some .int), Cond.constant RJ6 265 (1431655765), Cond.constant RJ6 266 (858993459), Cond.constant RJ6 267 (252645135)]
def wsL_chain : List Cond := .codeWith yL_chain cL_chain 5 (some .int) [(0, 10, 13, 13), (0, 10, 17, 15), (0, 10, 21, 56)] :: ((wsL_chain_r1 ++ wsL_chain_r2) ++ wsX00 ++ (vx_atS RX0 182 "java/lang/IndexOutOfBoundsException" ["java/lang/RuntimeException", "java/lang/Exception"]).filter goodWord ++ (vx_atS RX0 63 "java/lang/IllegalArgumentException" ["java/lang/RuntimeException", "java/lang/Exception"]).filter goodWord ++ (vx_atS RX0 195 "java/lang/IllegalStateException" ["java/lang/RuntimeException", "java/lang/Exception"]).filter goodWord)
def wsL_exchange_r1 : List Cond := [Cond.classLink RL 13 "java/lang/IndexOutOfBoundsException", Cond.classLink RL 15 "java/lang/IllegalArgumentException", Cond.classLink RL 56 "java/lang/IllegalStateException", Cond.methodLink RL 58 yX0_exchange, Cond.instanceMethod yX0_exchange, Cond.selects RX0 yX0_exchange yX0_exchange, Cond.initialized RX0, Cond.code yX0_exchange cX0_exchange 6 (some .int), Cond.fieldLink RX0 21 "FourTints" "worn" "[I", Cond.methodLink RX0 82 yX0_checkCountry, Cond.static yX0_checkCountry, Cond.code yX0_checkCountry cX0_checkCountry 1 none, Cond.classLink RX0 178 "java/lang/IndexOutOfBoundsException", Cond.initialized "java/lang/IndexOutOfBoundsException", Cond.methodLink RX0 121 yX0_checkTint, Cond.static yX0_checkTint, Cond.code yX0_checkTint cX0_checkTint 1 none, Cond.classLink RX0 59 "java/lang/IllegalArgumentException", Cond.initialized "java/lang/IllegalArgumentException", Cond.methodLink RX0 134 yX0_checkTinted, Cond.instanceMethod yX0_checkTinted, Cond.selects RX0 yX0_checkTinted yX0_checkTinted, Cond.code yX0_checkTinted cX0_checkTinted 2 none, Cond.classLink RX0 191 "java/lang/IllegalStateException"]
def wsL_exchange_r2 : List Cond := [Cond.initialized "java/lang/IllegalStateException", Cond.fieldLink RX0 13 "FourTints" "there" "I", Cond.methodLink RX0 140 yX0_has, Cond.static yX0_has, Cond.code yX0_has cX0_has 2 (some .boolean), Cond.methodLink RX0 137 yX0_chainOf, Cond.instanceMethod yX0_chainOf, Cond.selects RX0 yX0_chainOf yX0_chainOf, Cond.code yX0_chainOf cX0_chainOf 8 (some .int), Cond.fieldLink RX0 17 "FourTints" "near" "[I", Cond.methodLink RX0 124 yX0_wearing, Cond.instanceMethod yX0_wearing, Cond.selects RX0 yX0_wearing yX0_wearing, Cond.code yX0_wearing cX0_wearing 4 (some .int), Cond.methodLink RX0 77 yJ6_bitCount_0f7a4, Cond.static yJ6_bitCount_0f7a4, Cond.initialized RJ6, Cond.code yJ6_bitCount_0f7a4 cJ6_bitCount_0f7a4 1 (some .int), Cond.constant RJ6 265 (1431655765), Cond.constant RJ6 266 (858993459), Cond.constant RJ6 267 (252645135)]
def wsL_exchange : List Cond := .codeWith yL_exchange cL_exchange 5 (some .int) [(0, 10, 13, 13), (0, 10, 17, 15), (0, 10, 21, 56)] :: ((wsL_exchange_r1 ++ wsL_exchange_r2) ++ wsX00 ++ (vx_atS RX0 182 "java/lang/IndexOutOfBoundsException" ["java/lang/RuntimeException", "java/lang/Exception"]).filter goodWord ++ (vx_atS RX0 63 "java/lang/IllegalArgumentException" ["java/lang/RuntimeException", "java/lang/Exception"]).filter goodWord ++ (vx_atS RX0 195 "java/lang/IllegalStateException" ["java/lang/RuntimeException", "java/lang/Exception"]).filter goodWord)
def wsL_tintings_r1 : List Cond := [Cond.classLink RL 15 "java/lang/IllegalArgumentException", Cond.methodLink RL 61 yX0_tintings, Cond.instanceMethod yX0_tintings, Cond.selects RX0 yX0_tintings yX0_tintings, Cond.initialized RX0, Cond.code yX0_tintings cX0_tintings 7 (some .long), Cond.fieldLink RX0 31 "FourTints" "ways" "[J", Cond.fieldLink RX0 13 "FourTints" "there" "I", Cond.methodLink RX0 153 yX0_checkNumberOfTints, Cond.static yX0_checkNumberOfTints, Cond.code yX0_checkNumberOfTints cX0_checkNumberOfTints 1 none, Cond.classLink RX0 59 "java/lang/IllegalArgumentException", Cond.initialized "java/lang/IllegalArgumentException", Cond.methodLink RX0 156 yX0_markSetsWithoutNeighbours, Cond.instanceMethod yX0_markSetsWithoutNeighbours, Cond.selects RX0 yX0_markSetsWithoutNeighbours yX0_markSetsWithoutNeighbours, Cond.code yX0_markSetsWithoutNeighbours cX0_markSetsWithoutNeighbours 3 none, Cond.fieldLink RX0 27 "FourTints" "fits" "[Z", Cond.fieldLink RX0 17 "FourTints" "near" "[I", Cond.methodLink RX0 159 yJ7_fill_d0a16, Cond.static yJ7_fill_d0a16, Cond.initialized RJ7, Cond.code yJ7_fill_d0a16 cJ7_fill_d0a16 5 none, Cond.methodLink RX0 165 yX0_shareOutOneSet]
def wsL_tintings_r2 : List Cond := [Cond.instanceMethod yX0_shareOutOneSet, Cond.selects RX0 yX0_shareOutOneSet yX0_shareOutOneSet, Cond.code yX0_shareOutOneSet cX0_shareOutOneSet 4 none, Cond.methodLink RX0 217 yX0_shareOutFrom, Cond.instanceMethod yX0_shareOutFrom, Cond.selects RX0 yX0_shareOutFrom yX0_shareOutFrom, Cond.code yX0_shareOutFrom cX0_shareOutFrom 8 none]
def wsL_tintings : List Cond := .codeWith yL_tintings cL_tintings 4 (some .int) [(0, 8, 11, 15)] :: ((wsL_tintings_r1 ++ wsL_tintings_r2) ++ wsX00 ++ (vx_atS RX0 63 "java/lang/IllegalArgumentException" ["java/lang/RuntimeException", "java/lang/Exception"]).filter goodWord)
def wsL_tintingsByPairs_r1 : List Cond := [Cond.classLink RL 15 "java/lang/IllegalArgumentException", Cond.methodLink RL 65 yX0_tintingsByPairs, Cond.instanceMethod yX0_tintingsByPairs, Cond.selects RX0 yX0_tintingsByPairs yX0_tintingsByPairs, Cond.initialized RX0, Cond.code yX0_tintingsByPairs cX0_tintingsByPairs 2 (some .long), Cond.fieldLink RX0 17 "FourTints" "near" "[I", Cond.fieldLink RX0 36 "FourTints" "joined" "[[I", Cond.methodLink RX0 168 arraycopyName, Cond.native arraycopyName, Cond.static arraycopyName, Cond.initialized "java/lang/System", Cond.fieldLink RX0 13 "FourTints" "there" "I", Cond.methodLink RX0 153 yX0_checkNumberOfTints, Cond.static yX0_checkNumberOfTints, Cond.code yX0_checkNumberOfTints cX0_checkNumberOfTints 1 none, Cond.classLink RX0 59 "java/lang/IllegalArgumentException", Cond.initialized "java/lang/IllegalArgumentException", Cond.methodLink RX0 174 yX0_countByPairs, Cond.static yX0_countByPairs, Cond.code yX0_countByPairs cX0_countByPairs 14 (some .long), Cond.methodLink RX0 221 yX0_oneToTintLast, Cond.static yX0_oneToTintLast, Cond.code yX0_oneToTintLast cX0_oneToTintLast 3 (some .int)]
def wsL_tintingsByPairs_r2 : List Cond := [Cond.methodLink RX0 140 yX0_has, Cond.static yX0_has, Cond.code yX0_has cX0_has 2 (some .boolean), Cond.methodLink RX0 235 yX0_areAllNeighbours, Cond.static yX0_areAllNeighbours, Cond.code yX0_areAllNeighbours cX0_areAllNeighbours 3 (some .boolean), Cond.methodLink RX0 77 yJ6_bitCount_0f7a4, Cond.static yJ6_bitCount_0f7a4, Cond.initialized RJ6, Cond.code yJ6_bitCount_0f7a4 cJ6_bitCount_0f7a4 1 (some .int), Cond.constant RJ6 265 (1431655765), Cond.constant RJ6 266 (858993459), Cond.constant RJ6 267 (252645135), Cond.methodLink RX0 225 yX0_firstWithStranger, Cond.static yX0_firstWithStranger, Cond.code yX0_firstWithStranger cX0_firstWithStranger 3 (some .int), Cond.methodLink RX0 228 yX0_firstOf, Cond.static yX0_firstOf, Cond.code yX0_firstOf cX0_firstOf 2 (some .int), Cond.methodLink RX0 231 yX0_makeOne, Cond.static yX0_makeOne, Cond.code yX0_makeOne cX0_makeOne 5 none]
def wsL_tintingsByPairs : List Cond := .codeWith yL_tintingsByPairs cL_tintingsByPairs 4 (some .int) [(0, 8, 11, 15)] :: ((wsL_tintingsByPairs_r1 ++ wsL_tintingsByPairs_r2) ++ wsX00 ++ (vx_atS RX0 63 "java/lang/IllegalArgumentException" ["java/lang/RuntimeException", "java/lang/Exception"]).filter goodWord)
end
section
/-! the layer xw: a machine state as pc, locals, stack, world; rows of the kit over it -/
abbrev xC : Type := (Program × Launch × Env × Room × State × MethodId × Array Value × List Frame × Method × Code) × (va_G × List vw_C × (Nat → Prop) × List (ClassId × FieldType) × Nat × (State → Prop))
def xw : xC → Nat → Nat → Nat → List (Nat × Value) → List Value → va_W → Prop
  | ((p, l, e, R, s, m, args, below, meth, c), (D, cl, A, _, nL, Q)), cells, slots, pc, lv, st, ws => ∀ (H : Heap) (locs : List Loc) (ls : Array Slot), va_P D cl ws H → va_D A ws → va_S A s.heap H locs → lv_has ls nL lv → W p l e R s m args below meth c H locs cells slots Q (F0 m pc ls st)
/-- what is known of the method that runs: its room, launch, tables of classes, code, words -/
def xk : xC → Launch → Room → va_G → List vw_C → List (ClassId × FieldType) → ByteArray → String → List Cond → Nat → Prop
  | ((p, l, _, R, s, m, args, _, meth, c), (D, cl, A, tys, nL, _)), l', R', D', cl', tys', cc, own, Ts, n => l = l' ∧ R = R' ∧ D = D' ∧ cl = cl' ∧ tys = tys' ∧ p.tables.exec = Jvm.exec ∧ c.code = cc ∧ c.maxLocals = nL ∧ nL = n ∧ s.vm.findClass own = some m.cls ∧ (∀ w ∈ Ts, w.before args s = true) ∧ va_K D cl tys s ∧ (∀ q, s.heap.size ≤ q → A q) ∧ meth.locks = false
/-- put a local in its place -/
def xins (i : Nat) (v : Value) : List (Nat × Value) → List (Nat × Value)
  | [] => [(i, v)]
  | q :: r => bif Nat.blt q.1 i then q :: xins i v r else (i, v) :: q :: r
theorem xins_mem {i : Nat} {v : Value} {q : Nat × Value} : ∀ {l : List (Nat × Value)}, q ∈ xins i v l → q ∈ (i, v) :: l
  | [], h => h
  | a :: r, h => by
    unfold xins at h
    cases hb : Nat.blt a.1 i with
    | true =>
      rw [hb] at h
      rcases List.mem_cons.mp h with h | h
      · exact List.mem_cons.mpr (Or.inr (List.mem_cons.mpr (Or.inl h)))
      · rcases List.mem_cons.mp (xins_mem h) with h | h
        · exact List.mem_cons.mpr (Or.inl h)
        · exact List.mem_cons.mpr (Or.inr (List.mem_cons.mpr (Or.inr h)))
    | false =>
      rw [hb] at h
      exact h
theorem xhas_mono {ls : Array Slot} {n : Nat} {l l' : List (Nat × Value)} (h : lv_has ls n l) (hm : ∀ q ∈ l', q ∈ l) : lv_has ls n l' := ⟨h.1, h.2.1, fun q hq => h.2.2 q (hm q hq)⟩
def xst1 (i : Nat) (v : Value) (lv : List (Nat × Value)) : List (Nat × Value) := xins i v (lv.filter (fun q => !(q.1 == i) && !(q.1 + 1 == i && q.2.category == 2)))
def xst2 (i : Nat) (v : Value) (lv : List (Nat × Value)) : List (Nat × Value) := xins i v (lv.filter (fun q => !(q.1 == i) && (!(q.1 == i + 1) && !(q.1 + 1 == i && q.2.category == 2))))
/-- places kept, by a list of marks -/
def xkeep : List Bool → List (Nat × Value) → List (Nat × Value)
  | true :: b, q :: r => q :: xkeep b r
  | false :: b, _ :: r => xkeep b r
  | _, _ => []
theorem xkeep_mem {q : Nat × Value} : ∀ {b : List Bool} {l : List (Nat × Value)}, q ∈ xkeep b l → q ∈ l
  | [], [], h => h
  | [], _ :: _, h => absurd h List.not_mem_nil
  | true :: _, [], h => h
  | false :: _, [], h => h
  | true :: b, a :: r, h => by
    rcases List.mem_cons.mp h with h | h
    · exact List.mem_cons.mpr (Or.inl h)
    · exact List.mem_cons.mpr (Or.inr (xkeep_mem h))
  | false :: b, a :: r, h => List.mem_cons.mpr (Or.inr (xkeep_mem (b := b) h))
theorem xfm {α β : Type} {f : α → Option β} : ∀ {is : List α} {w : List β}, is.map f = w.map some → is.filterMap f = w
  | [], [], _ => rfl
  | [], _ :: _, h => by simp at h
  | _ :: _, [], h => by simp at h
  | i :: is, b :: w, h => by
    simp only [List.map_cons, List.cons.injEq] at h
    rw [List.filterMap_cons, h.1, xfm h.2]
def xushr (x y : Int32) : Int32 := (x.toUInt32 >>> (y.toUInt32 &&& Int32.toUInt32 31)).toInt32
def xlshl (x : Int64) (y : Int32) : Int64 := x <<< (y.toInt64 &&& 63)
def xlshr (x : Int64) (y : Int32) : Int64 := x >>> (y.toInt64 &&& 63)
def xlushr (x : Int64) (y : Int32) : Int64 := (x.toUInt64 >>> (y.toInt64.toUInt64 &&& Int64.toUInt64 63)).toInt64
theorem xin_of {i : Int32} {n : Nat} (h : (!(decide (i < 0) || decide (n ≤ i.toNatClampNeg))) = true) : vp_in i n := by
  intro h2
  rcases h2 with h2 | h2 <;> simp [h2] at h
def xin (i : Int32) (n : Nat) : Bool := !(decide (i < 0) || decide (n ≤ i.toNatClampNeg))
theorem xin_nI {k n : Nat} (h : k < n) (hn : n < 2 ^ 31) : xin (nI k) n = true := by
  have h1 := vp_in_nI h hn
  unfold vp_in at h1
  simp only [not_or] at h1
  simp [xin, h1.1, Nat.not_le.mp h1.2]
/-- a join of ways: the rest, said once -/
def xj1 {α : Type} (rest : α → Prop) (tree : (α → Prop) → Prop) : Prop := tree rest
theorem xj1_o {α : Type} {rest : α → Prop} {tree : (α → Prop) → Prop} (h : xj1 rest tree) : ∃ J : α → Prop, (∀ a, J a → rest a) ∧ tree J := ⟨rest, fun _ h => h, h⟩
theorem xj1_i {α : Type} {rest : α → Prop} {tree : (α → Prop) → Prop} (a : α) (h : ∀ J : α → Prop, J a → tree J) (r : rest a) : xj1 rest tree := h rest r
def xj0 (rest : Prop) (tree : Prop → Prop) : Prop := tree rest
theorem xj0_o {rest : Prop} {tree : Prop → Prop} (h : xj0 rest tree) : ∃ J : Prop, (J → rest) ∧ tree J := ⟨rest, fun h => h, h⟩
theorem xj0_i {rest : Prop} {tree : Prop → Prop} (h : ∀ J : Prop, J → tree J) (r : rest) : xj0 rest tree := h rest r
def xj2 {α β : Type} (rest : α → β → Prop) (tree : (α → β → Prop) → Prop) : Prop := tree rest
theorem xj2_o {α β : Type} {rest : α → β → Prop} {tree : (α → β → Prop) → Prop} (h : xj2 rest tree) : ∃ J : α → β → Prop, (∀ a b, J a b → rest a b) ∧ tree J := ⟨rest, fun _ _ h => h, h⟩
theorem xj2_i {α β : Type} {rest : α → β → Prop} {tree : (α → β → Prop) → Prop} (a : α) (b : β) (h : ∀ J : α → β → Prop, J a b → tree J) (r : rest a b) : xj2 rest tree := h rest r
def xj3 {α β γ : Type} (rest : α → β → γ → Prop) (tree : (α → β → γ → Prop) → Prop) : Prop := tree rest
theorem xj3_o {α β γ : Type} {rest : α → β → γ → Prop} {tree : (α → β → γ → Prop) → Prop} (h : xj3 rest tree) : ∃ J : α → β → γ → Prop, (∀ a b c, J a b c → rest a b c) ∧ tree J := ⟨rest, fun _ _ _ h => h, h⟩
theorem xj3_i {α β γ : Type} {rest : α → β → γ → Prop} {tree : (α → β → γ → Prop) → Prop} (a : α) (b : β) (c : γ) (h : ∀ J : α → β → γ → Prop, J a b c → tree J) (r : rest a b c) : xj3 rest tree := h rest r
def xj4 {α β γ δ : Type} (rest : α → β → γ → δ → Prop) (tree : (α → β → γ → δ → Prop) → Prop) : Prop := tree rest
theorem xj4_o {α β γ δ : Type} {rest : α → β → γ → δ → Prop} {tree : (α → β → γ → δ → Prop) → Prop} (h : xj4 rest tree) : ∃ J : α → β → γ → δ → Prop, (∀ a b c d, J a b c d → rest a b c d) ∧ tree J := ⟨rest, fun _ _ _ _ h => h, h⟩
theorem xj4_i {α β γ δ : Type} {rest : α → β → γ → δ → Prop} {tree : (α → β → γ → δ → Prop) → Prop} (a : α) (b : β) (c : γ) (d : δ) (h : ∀ J : α → β → γ → δ → Prop, J a b c d → tree J) (r : rest a b c d) : xj4 rest tree := h rest r
/-- a value is named -/
def xl {α : Type} (e : α) (f : α → Prop) : Prop := f e
theorem xl_o {α : Type} {e : α} {f : α → Prop} (h : xl e f) : ∃ y, y = e ∧ f y := ⟨e, rfl, h⟩
section XR
variable {X : xC} {l0 : Launch} {R0 : Room} {D0 : va_G} {cl0 : List vw_C} {tys0 : List (ClassId × FieldType)} {cc : ByteArray} {own : String} {Ts : List Cond} {nL cells slots pc : Nat} {lv lv' : List (Nat × Value)} {st : List Value} {ws : va_W}
theorem x_keep (b : List Bool) (h : xkeep b lv = lv') (kk : xw X cells slots pc lv' st ws) : xw X cells slots pc lv st ws := by
  obtain ⟨⟨p, l, e, R, s, m, args, below, meth, c⟩, ⟨D, cl, A, tys, nX, Q⟩⟩ := X
  intro H locs ls hP hD hS hl
  subst h
  exact kk H locs ls hP hD hS (xhas_mono hl (fun q hq => xkeep_mem hq))
theorem x_widen {k n : Nat} (h1 : cells ≤ k) (h2 : slots ≤ n) (kk : xw X k n pc lv st ws) : xw X cells slots pc lv st ws := by
  obtain ⟨⟨p, l, e, R, s, m, args, below, meth, c⟩, ⟨D, cl, A, tys, nX, Q⟩⟩ := X
  intro H locs ls hP hD hS hl
  exact W.widen h1 h2 (kk H locs ls hP hD hS hl)
theorem x_topi {x y : Int32} (h : y = x) (kk : xw X cells slots pc lv (.int y :: st) ws) : xw X cells slots pc lv (.int x :: st) ws := h ▸ kk
theorem x_topl {x y : Int64} (h : y = x) (kk : xw X cells slots pc lv (.long y :: st) ws) : xw X cells slots pc lv (.long x :: st) ws := h ▸ kk
theorem x_wsub (is : List Nat) {ws' : va_W} (h : is.map (fun i => ws[i]?) = ws'.map some) (hn : va_nd is = true) (kk : xw X cells slots pc lv st ws') : xw X cells slots pc lv st ws := by
  obtain ⟨⟨p, l, e, R, s, m, args, below, meth, c⟩, ⟨D, cl, A, tys, nX, Q⟩⟩ := X
  intro H locs ls hP hD hS hl
  exact kk H locs ls (hP.sub is (xfm h)) (hD.sub is hn h) hS hl

theorem x_iload_n (K : xk X l0 R0 D0 cl0 tys0 cc own Ts nL) {k : Fin 4} {i : Nat} {x : Int32} (d : decode cc pc = .ok (.iload_n k, 1)) (j : Nat) (hi : (k : Nat) = i) (hj : lv[j]? = some (i, .int x)) (kk : xw X cells slots (pc + 1) lv (.int x :: st) ws) : xw X cells slots pc lv st ws := by
  obtain ⟨⟨p, l, e, R, s, m, args, below, meth, c⟩, ⟨D, cl, A, tys, nX, Q⟩⟩ := X
  obtain ⟨rfl, rfl, rfl, rfl, rfl, hx, hb, hml, rfl, hown, hts, hK, hA, hlk⟩ := K
  intro H locs ls hP hD hS hl
  exact lv_iload_n hx hb d hi (lv_at hl j hj) (kk H locs ls hP hD hS hl)
theorem x_iload (K : xk X l0 R0 D0 cl0 tys0 cc own Ts nL) {i : Nat} {x : Int32} (d : decode cc pc = .ok (.iload i, 2)) (j : Nat) (hj : lv[j]? = some (i, .int x)) (kk : xw X cells slots (pc + 2) lv (.int x :: st) ws) : xw X cells slots pc lv st ws := by
  obtain ⟨⟨p, l, e, R, s, m, args, below, meth, c⟩, ⟨D, cl, A, tys, nX, Q⟩⟩ := X
  obtain ⟨rfl, rfl, rfl, rfl, rfl, hx, hb, hml, rfl, hown, hts, hK, hA, hlk⟩ := K
  intro H locs ls hP hD hS hl
  exact lv_iload hx hb d (lv_at hl j hj) (kk H locs ls hP hD hS hl)
theorem x_lload_n (K : xk X l0 R0 D0 cl0 tys0 cc own Ts nL) {k : Fin 4} {i : Nat} {x : Int64} (d : decode cc pc = .ok (.lload_n k, 1)) (j : Nat) (hi : (k : Nat) = i) (hj : lv[j]? = some (i, .long x)) (kk : xw X cells slots (pc + 1) lv (.long x :: st) ws) : xw X cells slots pc lv st ws := by
  obtain ⟨⟨p, l, e, R, s, m, args, below, meth, c⟩, ⟨D, cl, A, tys, nX, Q⟩⟩ := X
  obtain ⟨rfl, rfl, rfl, rfl, rfl, hx, hb, hml, rfl, hown, hts, hK, hA, hlk⟩ := K
  intro H locs ls hP hD hS hl
  exact lv_lload_n hx hb d hi (lv_at hl j hj) (kk H locs ls hP hD hS hl)
theorem x_lload (K : xk X l0 R0 D0 cl0 tys0 cc own Ts nL) {i : Nat} {x : Int64} (d : decode cc pc = .ok (.lload i, 2)) (j : Nat) (hj : lv[j]? = some (i, .long x)) (kk : xw X cells slots (pc + 2) lv (.long x :: st) ws) : xw X cells slots pc lv st ws := by
  obtain ⟨⟨p, l, e, R, s, m, args, below, meth, c⟩, ⟨D, cl, A, tys, nX, Q⟩⟩ := X
  obtain ⟨rfl, rfl, rfl, rfl, rfl, hx, hb, hml, rfl, hown, hts, hK, hA, hlk⟩ := K
  intro H locs ls hP hD hS hl
  exact lv_lload hx hb d (lv_at hl j hj) (kk H locs ls hP hD hS hl)
theorem x_aload_n (K : xk X l0 R0 D0 cl0 tys0 cc own Ts nL) {k : Fin 4} {i : Nat} {x : Nat} (d : decode cc pc = .ok (.aload_n k, 1)) (j : Nat) (hi : (k : Nat) = i) (hj : lv[j]? = some (i, .ref x)) (kk : xw X cells slots (pc + 1) lv (.ref x :: st) ws) : xw X cells slots pc lv st ws := by
  obtain ⟨⟨p, l, e, R, s, m, args, below, meth, c⟩, ⟨D, cl, A, tys, nX, Q⟩⟩ := X
  obtain ⟨rfl, rfl, rfl, rfl, rfl, hx, hb, hml, rfl, hown, hts, hK, hA, hlk⟩ := K
  intro H locs ls hP hD hS hl
  exact lv_aload_n hx hb d hi (lv_at hl j hj) (kk H locs ls hP hD hS hl)
theorem x_aload (K : xk X l0 R0 D0 cl0 tys0 cc own Ts nL) {i : Nat} {x : Nat} (d : decode cc pc = .ok (.aload i, 2)) (j : Nat) (hj : lv[j]? = some (i, .ref x)) (kk : xw X cells slots (pc + 2) lv (.ref x :: st) ws) : xw X cells slots pc lv st ws := by
  obtain ⟨⟨p, l, e, R, s, m, args, below, meth, c⟩, ⟨D, cl, A, tys, nX, Q⟩⟩ := X
  obtain ⟨rfl, rfl, rfl, rfl, rfl, hx, hb, hml, rfl, hown, hts, hK, hA, hlk⟩ := K
  intro H locs ls hP hD hS hl
  exact lv_aload hx hb d (lv_at hl j hj) (kk H locs ls hP hD hS hl)
theorem x_istore_n (K : xk X l0 R0 D0 cl0 tys0 cc own Ts nL) {k : Fin 4} {i : Nat} {x : Int32} (d : decode cc pc = .ok (.istore_n k, 1)) (hi : (k : Nat) = i) (hn : i < nL) (h : xst1 i (.int x) lv = lv') (kk : xw X cells slots (pc + 1) lv' (st) ws) : xw X cells slots pc lv (.int x :: st) ws := by
  obtain ⟨⟨p, l, e, R, s, m, args, below, meth, c⟩, ⟨D, cl, A, tys, nX, Q⟩⟩ := X
  obtain ⟨rfl, rfl, rfl, rfl, rfl, hx, hb, hml, rfl, hown, hts, hK, hA, hlk⟩ := K
  intro H locs ls hP hD hS hl
  exact lv_istore_n hx hb d hi hl hn rfl (fun ls hl => kk H locs ls hP hD hS (xhas_mono hl (fun q hq => by subst h; exact xins_mem hq)))
theorem x_istore (K : xk X l0 R0 D0 cl0 tys0 cc own Ts nL) {i : Nat} {x : Int32} (d : decode cc pc = .ok (.istore i, 2)) (hn : i < nL) (h : xst1 i (.int x) lv = lv') (kk : xw X cells slots (pc + 2) lv' (st) ws) : xw X cells slots pc lv (.int x :: st) ws := by
  obtain ⟨⟨p, l, e, R, s, m, args, below, meth, c⟩, ⟨D, cl, A, tys, nX, Q⟩⟩ := X
  obtain ⟨rfl, rfl, rfl, rfl, rfl, hx, hb, hml, rfl, hown, hts, hK, hA, hlk⟩ := K
  intro H locs ls hP hD hS hl
  exact lv_istore hx hb d hl hn rfl (fun ls hl => kk H locs ls hP hD hS (xhas_mono hl (fun q hq => by subst h; exact xins_mem hq)))
theorem x_lstore_n (K : xk X l0 R0 D0 cl0 tys0 cc own Ts nL) {k : Fin 4} {i : Nat} {x : Int64} (d : decode cc pc = .ok (.lstore_n k, 1)) (hi : (k : Nat) = i) (hn : i + 1 < nL) (h : xst2 i (.long x) lv = lv') (kk : xw X cells slots (pc + 1) lv' (st) ws) : xw X cells slots pc lv (.long x :: st) ws := by
  obtain ⟨⟨p, l, e, R, s, m, args, below, meth, c⟩, ⟨D, cl, A, tys, nX, Q⟩⟩ := X
  obtain ⟨rfl, rfl, rfl, rfl, rfl, hx, hb, hml, rfl, hown, hts, hK, hA, hlk⟩ := K
  intro H locs ls hP hD hS hl
  exact lv_lstore_n hx hb d hi hl hn rfl (fun ls hl => kk H locs ls hP hD hS (xhas_mono hl (fun q hq => by subst h; exact xins_mem hq)))
theorem x_lstore (K : xk X l0 R0 D0 cl0 tys0 cc own Ts nL) {i : Nat} {x : Int64} (d : decode cc pc = .ok (.lstore i, 2)) (hn : i + 1 < nL) (h : xst2 i (.long x) lv = lv') (kk : xw X cells slots (pc + 2) lv' (st) ws) : xw X cells slots pc lv (.long x :: st) ws := by
  obtain ⟨⟨p, l, e, R, s, m, args, below, meth, c⟩, ⟨D, cl, A, tys, nX, Q⟩⟩ := X
  obtain ⟨rfl, rfl, rfl, rfl, rfl, hx, hb, hml, rfl, hown, hts, hK, hA, hlk⟩ := K
  intro H locs ls hP hD hS hl
  exact lv_lstore hx hb d hl hn rfl (fun ls hl => kk H locs ls hP hD hS (xhas_mono hl (fun q hq => by subst h; exact xins_mem hq)))
theorem x_astore_n (K : xk X l0 R0 D0 cl0 tys0 cc own Ts nL) {k : Fin 4} {i : Nat} {x : Nat} (d : decode cc pc = .ok (.astore_n k, 1)) (hi : (k : Nat) = i) (hn : i < nL) (h : xst1 i (.ref x) lv = lv') (kk : xw X cells slots (pc + 1) lv' (st) ws) : xw X cells slots pc lv (.ref x :: st) ws := by
  obtain ⟨⟨p, l, e, R, s, m, args, below, meth, c⟩, ⟨D, cl, A, tys, nX, Q⟩⟩ := X
  obtain ⟨rfl, rfl, rfl, rfl, rfl, hx, hb, hml, rfl, hown, hts, hK, hA, hlk⟩ := K
  intro H locs ls hP hD hS hl
  exact lv_astore_n hx hb d hi hl hn rfl (fun ls hl => kk H locs ls hP hD hS (xhas_mono hl (fun q hq => by subst h; exact xins_mem hq)))
theorem x_astore (K : xk X l0 R0 D0 cl0 tys0 cc own Ts nL) {i : Nat} {x : Nat} (d : decode cc pc = .ok (.astore i, 2)) (hn : i < nL) (h : xst1 i (.ref x) lv = lv') (kk : xw X cells slots (pc + 2) lv' (st) ws) : xw X cells slots pc lv (.ref x :: st) ws := by
  obtain ⟨⟨p, l, e, R, s, m, args, below, meth, c⟩, ⟨D, cl, A, tys, nX, Q⟩⟩ := X
  obtain ⟨rfl, rfl, rfl, rfl, rfl, hx, hb, hml, rfl, hown, hts, hK, hA, hlk⟩ := K
  intro H locs ls hP hD hS hl
  exact lv_astore hx hb d hl hn rfl (fun ls hl => kk H locs ls hP hD hS (xhas_mono hl (fun q hq => by subst h; exact xins_mem hq)))
theorem x_iinc (K : xk X l0 R0 D0 cl0 tys0 cc own Ts nL) {i k : Nat} {n : Int} {x v : Int32} (d : decode cc pc = .ok (.iinc i n, 3)) (hk : lv[k]? = some (i, .int x)) (hv : x + Int32.ofInt n = v) (hn : i < nL) (h : xst1 i (.int v) lv = lv') (kk : xw X cells slots (pc + 3) lv' (st) ws) : xw X cells slots pc lv st ws := by
  obtain ⟨⟨p, l, e, R, s, m, args, below, meth, c⟩, ⟨D, cl, A, tys, nX, Q⟩⟩ := X
  obtain ⟨rfl, rfl, rfl, rfl, rfl, hx, hb, hml, rfl, hown, hts, hK, hA, hlk⟩ := K
  intro H locs ls hP hD hS hl
  exact lv_iinc hx hb d hl hk hv hn rfl (fun ls hl => kk H locs ls hP hD hS (xhas_mono hl (fun q hq => by subst h; exact xins_mem hq)))
theorem x_iconst (K : xk X l0 R0 D0 cl0 tys0 cc own Ts nL) {n : Int} {v : Int32} (d : decode cc pc = .ok (.iconst n, 1)) (hv : Int32.ofInt n = v) (kk : xw X cells slots (pc + 1) lv (.int v :: st) ws) : xw X cells slots pc lv st ws := by
  obtain ⟨⟨p, l, e, R, s, m, args, below, meth, c⟩, ⟨D, cl, A, tys, nX, Q⟩⟩ := X
  obtain ⟨rfl, rfl, rfl, rfl, rfl, hx, hb, hml, rfl, hown, hts, hK, hA, hlk⟩ := K
  intro H locs ls hP hD hS hl
  exact lv_iconst hx hb d hv (kk H locs ls hP hD hS hl)
theorem x_bipush (K : xk X l0 R0 D0 cl0 tys0 cc own Ts nL) {n : Int} {v : Int32} (d : decode cc pc = .ok (.bipush n, 2)) (hv : (Int8.ofInt n).toInt32 = v) (kk : xw X cells slots (pc + 2) lv (.int v :: st) ws) : xw X cells slots pc lv st ws := by
  obtain ⟨⟨p, l, e, R, s, m, args, below, meth, c⟩, ⟨D, cl, A, tys, nX, Q⟩⟩ := X
  obtain ⟨rfl, rfl, rfl, rfl, rfl, hx, hb, hml, rfl, hown, hts, hK, hA, hlk⟩ := K
  intro H locs ls hP hD hS hl
  exact lv_bipush hx hb d hv (kk H locs ls hP hD hS hl)
theorem x_sipush (K : xk X l0 R0 D0 cl0 tys0 cc own Ts nL) {n : Int} {v : Int32} (d : decode cc pc = .ok (.sipush n, 3)) (hv : (Int16.ofInt n).toInt32 = v) (kk : xw X cells slots (pc + 3) lv (.int v :: st) ws) : xw X cells slots pc lv st ws := by
  obtain ⟨⟨p, l, e, R, s, m, args, below, meth, c⟩, ⟨D, cl, A, tys, nX, Q⟩⟩ := X
  obtain ⟨rfl, rfl, rfl, rfl, rfl, hx, hb, hml, rfl, hown, hts, hK, hA, hlk⟩ := K
  intro H locs ls hP hD hS hl
  exact lv_sipush hx hb d hv (kk H locs ls hP hD hS hl)
theorem x_lconst (K : xk X l0 R0 D0 cl0 tys0 cc own Ts nL) {n : Fin 2} {v : Int64} (d : decode cc pc = .ok (.lconst n, 1)) (hv : Int64.ofNat (n : Nat) = v) (kk : xw X cells slots (pc + 1) lv (.long v :: st) ws) : xw X cells slots pc lv st ws := by
  obtain ⟨⟨p, l, e, R, s, m, args, below, meth, c⟩, ⟨D, cl, A, tys, nX, Q⟩⟩ := X
  obtain ⟨rfl, rfl, rfl, rfl, rfl, hx, hb, hml, rfl, hown, hts, hK, hA, hlk⟩ := K
  intro H locs ls hP hD hS hl
  exact lv_lconst hx hb d hv (kk H locs ls hP hD hS hl)
theorem x_ldc (K : xk X l0 R0 D0 cl0 tys0 cc own Ts nL) {index : Nat} {v : Int32} (hc : Cond.constant own index v ∈ Ts) (d : decode cc pc = .ok (.ldc index, 2)) (kk : xw X cells slots (pc + 2) lv (.int v :: st) ws) : xw X cells slots pc lv st ws := by
  obtain ⟨⟨p, l, e, R, s, m, args, below, meth, c⟩, ⟨D, cl, A, tys, nX, Q⟩⟩ := X
  obtain ⟨rfl, rfl, rfl, rfl, rfl, hx, hb, hml, rfl, hown, hts, hK, hA, hlk⟩ := K
  intro H locs ls hP hD hS hl
  exact lv_ldc hx hb hown (hts _ hc) d (kk H locs ls hP hD hS hl)
theorem x_ldcw (K : xk X l0 R0 D0 cl0 tys0 cc own Ts nL) {index : Nat} {v : Int32} (hc : Cond.constant own index v ∈ Ts) (d : decode cc pc = .ok (.ldc_w index, 3)) (kk : xw X cells slots (pc + 3) lv (.int v :: st) ws) : xw X cells slots pc lv st ws := by
  obtain ⟨⟨p, l, e, R, s, m, args, below, meth, c⟩, ⟨D, cl, A, tys, nX, Q⟩⟩ := X
  obtain ⟨rfl, rfl, rfl, rfl, rfl, hx, hb, hml, rfl, hown, hts, hK, hA, hlk⟩ := K
  intro H locs ls hP hD hS hl
  exact lv_ldcw hx hb hown (hts _ hc) d (kk H locs ls hP hD hS hl)
theorem x_ldc2 (K : xk X l0 R0 D0 cl0 tys0 cc own Ts nL) {index : Nat} {v : Int64} (hc : Cond.constantLong own index v ∈ Ts) (d : decode cc pc = .ok (.ldc2_w index, 3)) (kk : xw X cells slots (pc + 3) lv (.long v :: st) ws) : xw X cells slots pc lv st ws := by
  obtain ⟨⟨p, l, e, R, s, m, args, below, meth, c⟩, ⟨D, cl, A, tys, nX, Q⟩⟩ := X
  obtain ⟨rfl, rfl, rfl, rfl, rfl, hx, hb, hml, rfl, hown, hts, hK, hA, hlk⟩ := K
  intro H locs ls hP hD hS hl
  exact lv_ldc2 hx hb hown (hts _ hc) d (kk H locs ls hP hD hS hl)
theorem x_iadd (K : xk X l0 R0 D0 cl0 tys0 cc own Ts nL) {x y : Int32} (d : decode cc pc = .ok (.iadd, 1)) (kk : xw X cells slots (pc + 1) lv (.int (x + y) :: st) ws) : xw X cells slots pc lv (.int y :: .int x :: st) ws := by
  obtain ⟨⟨p, l, e, R, s, m, args, below, meth, c⟩, ⟨D, cl, A, tys, nX, Q⟩⟩ := X
  obtain ⟨rfl, rfl, rfl, rfl, rfl, hx, hb, hml, rfl, hown, hts, hK, hA, hlk⟩ := K
  intro H locs ls hP hD hS hl
  exact lv_iadd hx hb d (kk H locs ls hP hD hS hl)
theorem x_isub (K : xk X l0 R0 D0 cl0 tys0 cc own Ts nL) {x y : Int32} (d : decode cc pc = .ok (.isub, 1)) (kk : xw X cells slots (pc + 1) lv (.int (x - y) :: st) ws) : xw X cells slots pc lv (.int y :: .int x :: st) ws := by
  obtain ⟨⟨p, l, e, R, s, m, args, below, meth, c⟩, ⟨D, cl, A, tys, nX, Q⟩⟩ := X
  obtain ⟨rfl, rfl, rfl, rfl, rfl, hx, hb, hml, rfl, hown, hts, hK, hA, hlk⟩ := K
  intro H locs ls hP hD hS hl
  exact lv_isub hx hb d (kk H locs ls hP hD hS hl)
theorem x_imul (K : xk X l0 R0 D0 cl0 tys0 cc own Ts nL) {x y : Int32} (d : decode cc pc = .ok (.imul, 1)) (kk : xw X cells slots (pc + 1) lv (.int (x * y) :: st) ws) : xw X cells slots pc lv (.int y :: .int x :: st) ws := by
  obtain ⟨⟨p, l, e, R, s, m, args, below, meth, c⟩, ⟨D, cl, A, tys, nX, Q⟩⟩ := X
  obtain ⟨rfl, rfl, rfl, rfl, rfl, hx, hb, hml, rfl, hown, hts, hK, hA, hlk⟩ := K
  intro H locs ls hP hD hS hl
  exact lv_imul hx hb d (kk H locs ls hP hD hS hl)
theorem x_iand (K : xk X l0 R0 D0 cl0 tys0 cc own Ts nL) {x y : Int32} (d : decode cc pc = .ok (.iand, 1)) (kk : xw X cells slots (pc + 1) lv (.int (x &&& y) :: st) ws) : xw X cells slots pc lv (.int y :: .int x :: st) ws := by
  obtain ⟨⟨p, l, e, R, s, m, args, below, meth, c⟩, ⟨D, cl, A, tys, nX, Q⟩⟩ := X
  obtain ⟨rfl, rfl, rfl, rfl, rfl, hx, hb, hml, rfl, hown, hts, hK, hA, hlk⟩ := K
  intro H locs ls hP hD hS hl
  exact lv_iand hx hb d (kk H locs ls hP hD hS hl)
theorem x_ior (K : xk X l0 R0 D0 cl0 tys0 cc own Ts nL) {x y : Int32} (d : decode cc pc = .ok (.ior, 1)) (kk : xw X cells slots (pc + 1) lv (.int (x ||| y) :: st) ws) : xw X cells slots pc lv (.int y :: .int x :: st) ws := by
  obtain ⟨⟨p, l, e, R, s, m, args, below, meth, c⟩, ⟨D, cl, A, tys, nX, Q⟩⟩ := X
  obtain ⟨rfl, rfl, rfl, rfl, rfl, hx, hb, hml, rfl, hown, hts, hK, hA, hlk⟩ := K
  intro H locs ls hP hD hS hl
  exact lv_ior hx hb d (kk H locs ls hP hD hS hl)
theorem x_ixor (K : xk X l0 R0 D0 cl0 tys0 cc own Ts nL) {x y : Int32} (d : decode cc pc = .ok (.ixor, 1)) (kk : xw X cells slots (pc + 1) lv (.int (x ^^^ y) :: st) ws) : xw X cells slots pc lv (.int y :: .int x :: st) ws := by
  obtain ⟨⟨p, l, e, R, s, m, args, below, meth, c⟩, ⟨D, cl, A, tys, nX, Q⟩⟩ := X
  obtain ⟨rfl, rfl, rfl, rfl, rfl, hx, hb, hml, rfl, hown, hts, hK, hA, hlk⟩ := K
  intro H locs ls hP hD hS hl
  exact lv_ixor hx hb d (kk H locs ls hP hD hS hl)
theorem x_ishl (K : xk X l0 R0 D0 cl0 tys0 cc own Ts nL) {x y : Int32} (d : decode cc pc = .ok (.ishl, 1)) (kk : xw X cells slots (pc + 1) lv (.int (x <<< (y &&& 31)) :: st) ws) : xw X cells slots pc lv (.int y :: .int x :: st) ws := by
  obtain ⟨⟨p, l, e, R, s, m, args, below, meth, c⟩, ⟨D, cl, A, tys, nX, Q⟩⟩ := X
  obtain ⟨rfl, rfl, rfl, rfl, rfl, hx, hb, hml, rfl, hown, hts, hK, hA, hlk⟩ := K
  intro H locs ls hP hD hS hl
  exact lv_ishl hx hb d (kk H locs ls hP hD hS hl)
theorem x_ishr (K : xk X l0 R0 D0 cl0 tys0 cc own Ts nL) {x y : Int32} (d : decode cc pc = .ok (.ishr, 1)) (kk : xw X cells slots (pc + 1) lv (.int (x >>> (y &&& 31)) :: st) ws) : xw X cells slots pc lv (.int y :: .int x :: st) ws := by
  obtain ⟨⟨p, l, e, R, s, m, args, below, meth, c⟩, ⟨D, cl, A, tys, nX, Q⟩⟩ := X
  obtain ⟨rfl, rfl, rfl, rfl, rfl, hx, hb, hml, rfl, hown, hts, hK, hA, hlk⟩ := K
  intro H locs ls hP hD hS hl
  exact lv_ishr hx hb d (kk H locs ls hP hD hS hl)
theorem x_ladd (K : xk X l0 R0 D0 cl0 tys0 cc own Ts nL) {x y : Int64} (d : decode cc pc = .ok (.ladd, 1)) (kk : xw X cells slots (pc + 1) lv (.long (x + y) :: st) ws) : xw X cells slots pc lv (.long y :: .long x :: st) ws := by
  obtain ⟨⟨p, l, e, R, s, m, args, below, meth, c⟩, ⟨D, cl, A, tys, nX, Q⟩⟩ := X
  obtain ⟨rfl, rfl, rfl, rfl, rfl, hx, hb, hml, rfl, hown, hts, hK, hA, hlk⟩ := K
  intro H locs ls hP hD hS hl
  exact lv_ladd hx hb d (kk H locs ls hP hD hS hl)
theorem x_lsub (K : xk X l0 R0 D0 cl0 tys0 cc own Ts nL) {x y : Int64} (d : decode cc pc = .ok (.lsub, 1)) (kk : xw X cells slots (pc + 1) lv (.long (x - y) :: st) ws) : xw X cells slots pc lv (.long y :: .long x :: st) ws := by
  obtain ⟨⟨p, l, e, R, s, m, args, below, meth, c⟩, ⟨D, cl, A, tys, nX, Q⟩⟩ := X
  obtain ⟨rfl, rfl, rfl, rfl, rfl, hx, hb, hml, rfl, hown, hts, hK, hA, hlk⟩ := K
  intro H locs ls hP hD hS hl
  exact lv_lsub hx hb d (kk H locs ls hP hD hS hl)
theorem x_lmul (K : xk X l0 R0 D0 cl0 tys0 cc own Ts nL) {x y : Int64} (d : decode cc pc = .ok (.lmul, 1)) (kk : xw X cells slots (pc + 1) lv (.long (x * y) :: st) ws) : xw X cells slots pc lv (.long y :: .long x :: st) ws := by
  obtain ⟨⟨p, l, e, R, s, m, args, below, meth, c⟩, ⟨D, cl, A, tys, nX, Q⟩⟩ := X
  obtain ⟨rfl, rfl, rfl, rfl, rfl, hx, hb, hml, rfl, hown, hts, hK, hA, hlk⟩ := K
  intro H locs ls hP hD hS hl
  exact lv_lmul hx hb d (kk H locs ls hP hD hS hl)
theorem x_land (K : xk X l0 R0 D0 cl0 tys0 cc own Ts nL) {x y : Int64} (d : decode cc pc = .ok (.land, 1)) (kk : xw X cells slots (pc + 1) lv (.long (x &&& y) :: st) ws) : xw X cells slots pc lv (.long y :: .long x :: st) ws := by
  obtain ⟨⟨p, l, e, R, s, m, args, below, meth, c⟩, ⟨D, cl, A, tys, nX, Q⟩⟩ := X
  obtain ⟨rfl, rfl, rfl, rfl, rfl, hx, hb, hml, rfl, hown, hts, hK, hA, hlk⟩ := K
  intro H locs ls hP hD hS hl
  exact lv_land hx hb d (kk H locs ls hP hD hS hl)
theorem x_lor (K : xk X l0 R0 D0 cl0 tys0 cc own Ts nL) {x y : Int64} (d : decode cc pc = .ok (.lor, 1)) (kk : xw X cells slots (pc + 1) lv (.long (x ||| y) :: st) ws) : xw X cells slots pc lv (.long y :: .long x :: st) ws := by
  obtain ⟨⟨p, l, e, R, s, m, args, below, meth, c⟩, ⟨D, cl, A, tys, nX, Q⟩⟩ := X
  obtain ⟨rfl, rfl, rfl, rfl, rfl, hx, hb, hml, rfl, hown, hts, hK, hA, hlk⟩ := K
  intro H locs ls hP hD hS hl
  exact lv_lor hx hb d (kk H locs ls hP hD hS hl)
theorem x_lxor (K : xk X l0 R0 D0 cl0 tys0 cc own Ts nL) {x y : Int64} (d : decode cc pc = .ok (.lxor, 1)) (kk : xw X cells slots (pc + 1) lv (.long (x ^^^ y) :: st) ws) : xw X cells slots pc lv (.long y :: .long x :: st) ws := by
  obtain ⟨⟨p, l, e, R, s, m, args, below, meth, c⟩, ⟨D, cl, A, tys, nX, Q⟩⟩ := X
  obtain ⟨rfl, rfl, rfl, rfl, rfl, hx, hb, hml, rfl, hown, hts, hK, hA, hlk⟩ := K
  intro H locs ls hP hD hS hl
  exact lv_lxor hx hb d (kk H locs ls hP hD hS hl)
theorem x_iushr (K : xk X l0 R0 D0 cl0 tys0 cc own Ts nL) {x y : Int32} (d : decode cc pc = .ok (.iushr, 1)) (kk : xw X cells slots (pc + 1) lv (.int (xushr x y) :: st) ws) : xw X cells slots pc lv (.int y :: .int x :: st) ws := by
  obtain ⟨⟨p, l, e, R, s, m, args, below, meth, c⟩, ⟨D, cl, A, tys, nX, Q⟩⟩ := X
  obtain ⟨rfl, rfl, rfl, rfl, rfl, hx, hb, hml, rfl, hown, hts, hK, hA, hlk⟩ := K
  intro H locs ls hP hD hS hl
  exact lv_iushr hx hb d rfl (kk H locs ls hP hD hS hl)
theorem x_lshl (K : xk X l0 R0 D0 cl0 tys0 cc own Ts nL) {x : Int64} {y : Int32} (d : decode cc pc = .ok (.lshl, 1)) (kk : xw X cells slots (pc + 1) lv (.long (xlshl x y) :: st) ws) : xw X cells slots pc lv (.int y :: .long x :: st) ws := by
  obtain ⟨⟨p, l, e, R, s, m, args, below, meth, c⟩, ⟨D, cl, A, tys, nX, Q⟩⟩ := X
  obtain ⟨rfl, rfl, rfl, rfl, rfl, hx, hb, hml, rfl, hown, hts, hK, hA, hlk⟩ := K
  intro H locs ls hP hD hS hl
  exact lv_lshl hx hb d rfl (kk H locs ls hP hD hS hl)
theorem x_lshr (K : xk X l0 R0 D0 cl0 tys0 cc own Ts nL) {x : Int64} {y : Int32} (d : decode cc pc = .ok (.lshr, 1)) (kk : xw X cells slots (pc + 1) lv (.long (xlshr x y) :: st) ws) : xw X cells slots pc lv (.int y :: .long x :: st) ws := by
  obtain ⟨⟨p, l, e, R, s, m, args, below, meth, c⟩, ⟨D, cl, A, tys, nX, Q⟩⟩ := X
  obtain ⟨rfl, rfl, rfl, rfl, rfl, hx, hb, hml, rfl, hown, hts, hK, hA, hlk⟩ := K
  intro H locs ls hP hD hS hl
  exact lv_lshr hx hb d rfl (kk H locs ls hP hD hS hl)
theorem x_lushr (K : xk X l0 R0 D0 cl0 tys0 cc own Ts nL) {x : Int64} {y : Int32} (d : decode cc pc = .ok (.lushr, 1)) (kk : xw X cells slots (pc + 1) lv (.long (xlushr x y) :: st) ws) : xw X cells slots pc lv (.int y :: .long x :: st) ws := by
  obtain ⟨⟨p, l, e, R, s, m, args, below, meth, c⟩, ⟨D, cl, A, tys, nX, Q⟩⟩ := X
  obtain ⟨rfl, rfl, rfl, rfl, rfl, hx, hb, hml, rfl, hown, hts, hK, hA, hlk⟩ := K
  intro H locs ls hP hD hS hl
  exact lv_lushr hx hb d rfl (kk H locs ls hP hD hS hl)
theorem x_ineg (K : xk X l0 R0 D0 cl0 tys0 cc own Ts nL) {x : Int32} (d : decode cc pc = .ok (.ineg, 1)) (kk : xw X cells slots (pc + 1) lv (.int (-x) :: st) ws) : xw X cells slots pc lv (.int x :: st) ws := by
  obtain ⟨⟨p, l, e, R, s, m, args, below, meth, c⟩, ⟨D, cl, A, tys, nX, Q⟩⟩ := X
  obtain ⟨rfl, rfl, rfl, rfl, rfl, hx, hb, hml, rfl, hown, hts, hK, hA, hlk⟩ := K
  intro H locs ls hP hD hS hl
  exact lv_ineg hx hb d (kk H locs ls hP hD hS hl)
theorem x_lneg (K : xk X l0 R0 D0 cl0 tys0 cc own Ts nL) {x : Int64} (d : decode cc pc = .ok (.lneg, 1)) (kk : xw X cells slots (pc + 1) lv (.long (-x) :: st) ws) : xw X cells slots pc lv (.long x :: st) ws := by
  obtain ⟨⟨p, l, e, R, s, m, args, below, meth, c⟩, ⟨D, cl, A, tys, nX, Q⟩⟩ := X
  obtain ⟨rfl, rfl, rfl, rfl, rfl, hx, hb, hml, rfl, hown, hts, hK, hA, hlk⟩ := K
  intro H locs ls hP hD hS hl
  exact lv_lneg hx hb d (kk H locs ls hP hD hS hl)
theorem x_idiv (K : xk X l0 R0 D0 cl0 tys0 cc own Ts nL) {x y : Int32} (hne : ¬ y = 0) (d : decode cc pc = .ok (.idiv, 1)) (kk : xw X cells slots (pc + 1) lv (.int (x / y) :: st) ws) : xw X cells slots pc lv (.int y :: .int x :: st) ws := by
  obtain ⟨⟨p, l, e, R, s, m, args, below, meth, c⟩, ⟨D, cl, A, tys, nX, Q⟩⟩ := X
  obtain ⟨rfl, rfl, rfl, rfl, rfl, hx, hb, hml, rfl, hown, hts, hK, hA, hlk⟩ := K
  intro H locs ls hP hD hS hl
  exact lv_idiv hx hb d hne (kk H locs ls hP hD hS hl)
theorem x_irem (K : xk X l0 R0 D0 cl0 tys0 cc own Ts nL) {x y : Int32} (hne : ¬ y = 0) (d : decode cc pc = .ok (.irem, 1)) (kk : xw X cells slots (pc + 1) lv (.int (x - x / y * y) :: st) ws) : xw X cells slots pc lv (.int y :: .int x :: st) ws := by
  obtain ⟨⟨p, l, e, R, s, m, args, below, meth, c⟩, ⟨D, cl, A, tys, nX, Q⟩⟩ := X
  obtain ⟨rfl, rfl, rfl, rfl, rfl, hx, hb, hml, rfl, hown, hts, hK, hA, hlk⟩ := K
  intro H locs ls hP hD hS hl
  exact lv_irem hx hb d hne (kk H locs ls hP hD hS hl)
theorem x_i2l (K : xk X l0 R0 D0 cl0 tys0 cc own Ts nL) {x : Int32} (d : decode cc pc = .ok (.i2l, 1)) (kk : xw X cells slots (pc + 1) lv (.long (x.toInt64) :: st) ws) : xw X cells slots pc lv (.int x :: st) ws := by
  obtain ⟨⟨p, l, e, R, s, m, args, below, meth, c⟩, ⟨D, cl, A, tys, nX, Q⟩⟩ := X
  obtain ⟨rfl, rfl, rfl, rfl, rfl, hx, hb, hml, rfl, hown, hts, hK, hA, hlk⟩ := K
  intro H locs ls hP hD hS hl
  exact lv_i2l hx hb d rfl (kk H locs ls hP hD hS hl)
theorem x_l2i (K : xk X l0 R0 D0 cl0 tys0 cc own Ts nL) {x : Int64} (d : decode cc pc = .ok (.l2i, 1)) (kk : xw X cells slots (pc + 1) lv (.int (x.toInt32) :: st) ws) : xw X cells slots pc lv (.long x :: st) ws := by
  obtain ⟨⟨p, l, e, R, s, m, args, below, meth, c⟩, ⟨D, cl, A, tys, nX, Q⟩⟩ := X
  obtain ⟨rfl, rfl, rfl, rfl, rfl, hx, hb, hml, rfl, hown, hts, hK, hA, hlk⟩ := K
  intro H locs ls hP hD hS hl
  exact lv_l2i hx hb d rfl (kk H locs ls hP hD hS hl)
theorem x_lcmp (K : xk X l0 R0 D0 cl0 tys0 cc own Ts nL) {x y : Int64} (d : decode cc pc = .ok (.lcmp, 1)) (kk : xw X cells slots (pc + 1) lv (.int (lg_cmp x y) :: st) ws) : xw X cells slots pc lv (.long y :: .long x :: st) ws := by
  obtain ⟨⟨p, l, e, R, s, m, args, below, meth, c⟩, ⟨D, cl, A, tys, nX, Q⟩⟩ := X
  obtain ⟨rfl, rfl, rfl, rfl, rfl, hx, hb, hml, rfl, hown, hts, hK, hA, hlk⟩ := K
  intro H locs ls hP hD hS hl
  exact W.lcmp hx hb d (kk H locs ls hP hD hS hl)
theorem x_dup (K : xk X l0 R0 D0 cl0 tys0 cc own Ts nL) {va : Value} (d : decode cc pc = .ok (.dup, 1)) (hva : va.category = 1) (kk : xw X cells slots (pc + 1) lv (va :: va :: st) ws) : xw X cells slots pc lv (va :: st) ws := by
  obtain ⟨⟨p, l, e, R, s, m, args, below, meth, c⟩, ⟨D, cl, A, tys, nX, Q⟩⟩ := X
  obtain ⟨rfl, rfl, rfl, rfl, rfl, hx, hb, hml, rfl, hown, hts, hK, hA, hlk⟩ := K
  intro H locs ls hP hD hS hl
  exact lv_dup hx hb d hva (kk H locs ls hP hD hS hl)
theorem x_dup2 (K : xk X l0 R0 D0 cl0 tys0 cc own Ts nL) {va vb : Value} (d : decode cc pc = .ok (.dup2, 1)) (hva : va.category = 1) (hvb : vb.category = 1) (kk : xw X cells slots (pc + 1) lv (va :: vb :: va :: vb :: st) ws) : xw X cells slots pc lv (va :: vb :: st) ws := by
  obtain ⟨⟨p, l, e, R, s, m, args, below, meth, c⟩, ⟨D, cl, A, tys, nX, Q⟩⟩ := X
  obtain ⟨rfl, rfl, rfl, rfl, rfl, hx, hb, hml, rfl, hown, hts, hK, hA, hlk⟩ := K
  intro H locs ls hP hD hS hl
  exact lv_dup2_11 hx hb d hva hvb (kk H locs ls hP hD hS hl)
theorem x_pop (K : xk X l0 R0 D0 cl0 tys0 cc own Ts nL) {va : Value} (d : decode cc pc = .ok (.pop, 1)) (hva : va.category = 1) (kk : xw X cells slots (pc + 1) lv (st) ws) : xw X cells slots pc lv (va :: st) ws := by
  obtain ⟨⟨p, l, e, R, s, m, args, below, meth, c⟩, ⟨D, cl, A, tys, nX, Q⟩⟩ := X
  obtain ⟨rfl, rfl, rfl, rfl, rfl, hx, hb, hml, rfl, hown, hts, hK, hA, hlk⟩ := K
  intro H locs ls hP hD hS hl
  exact lv_pop hx hb d hva (kk H locs ls hP hD hS hl)
theorem x_goto (K : xk X l0 R0 D0 cl0 tys0 cc own Ts nL) {off : Int} {tgt : Nat} (d : decode cc pc = .ok (.goto off, 3)) (ht : (pc : Int) + off = (tgt : Int)) (kk : xw X cells slots tgt lv st ws) : xw X cells slots pc lv st ws := by
  obtain ⟨⟨p, l, e, R, s, m, args, below, meth, c⟩, ⟨D, cl, A, tys, nX, Q⟩⟩ := X
  obtain ⟨rfl, rfl, rfl, rfl, rfl, hx, hb, hml, rfl, hown, hts, hK, hA, hlk⟩ := K
  intro H locs ls hP hD hS hl
  exact lv_goto hx hb d ht (kk H locs ls hP hD hS hl)
theorem x_icmp_eq (K : xk X l0 R0 D0 cl0 tys0 cc own Ts nL) {x y : Int32} {off : Int} {tgt : Nat} (d : decode cc pc = .ok (.if_icmp .eq off, 3)) (ht : (pc : Int) + off = (tgt : Int)) (kt : x = y → xw X cells slots tgt lv st ws) (kf : ¬ x = y → xw X cells slots (pc + 3) lv st ws) : xw X cells slots pc lv (.int y :: .int x :: st) ws := by
  obtain ⟨⟨p, l, e, R, s, m, args, below, meth, c⟩, ⟨D, cl, A, tys, nX, Q⟩⟩ := X
  obtain ⟨rfl, rfl, rfl, rfl, rfl, hx, hb, hml, rfl, hown, hts, hK, hA, hlk⟩ := K
  intro H locs ls hP hD hS hl
  exact lv_icmp_eq hx hb d ht (fun h => kt h H locs ls hP hD hS hl) (fun h => kf h H locs ls hP hD hS hl)
theorem x_if_eq (K : xk X l0 R0 D0 cl0 tys0 cc own Ts nL) {x : Int32} {off : Int} {tgt : Nat} (d : decode cc pc = .ok (.ifCond .eq off, 3)) (ht : (pc : Int) + off = (tgt : Int)) (kt : x = 0 → xw X cells slots tgt lv st ws) (kf : ¬ x = 0 → xw X cells slots (pc + 3) lv st ws) : xw X cells slots pc lv (.int x :: st) ws := by
  obtain ⟨⟨p, l, e, R, s, m, args, below, meth, c⟩, ⟨D, cl, A, tys, nX, Q⟩⟩ := X
  obtain ⟨rfl, rfl, rfl, rfl, rfl, hx, hb, hml, rfl, hown, hts, hK, hA, hlk⟩ := K
  intro H locs ls hP hD hS hl
  exact lv_if_eq hx hb d ht (fun h => kt h H locs ls hP hD hS hl) (fun h => kf h H locs ls hP hD hS hl)
theorem x_icmp_ne (K : xk X l0 R0 D0 cl0 tys0 cc own Ts nL) {x y : Int32} {off : Int} {tgt : Nat} (d : decode cc pc = .ok (.if_icmp .ne off, 3)) (ht : (pc : Int) + off = (tgt : Int)) (kt : ¬ x = y → xw X cells slots tgt lv st ws) (kf : x = y → xw X cells slots (pc + 3) lv st ws) : xw X cells slots pc lv (.int y :: .int x :: st) ws := by
  obtain ⟨⟨p, l, e, R, s, m, args, below, meth, c⟩, ⟨D, cl, A, tys, nX, Q⟩⟩ := X
  obtain ⟨rfl, rfl, rfl, rfl, rfl, hx, hb, hml, rfl, hown, hts, hK, hA, hlk⟩ := K
  intro H locs ls hP hD hS hl
  exact lv_icmp_ne hx hb d ht (fun h => kt h H locs ls hP hD hS hl) (fun h => kf h H locs ls hP hD hS hl)
theorem x_if_ne (K : xk X l0 R0 D0 cl0 tys0 cc own Ts nL) {x : Int32} {off : Int} {tgt : Nat} (d : decode cc pc = .ok (.ifCond .ne off, 3)) (ht : (pc : Int) + off = (tgt : Int)) (kt : ¬ x = 0 → xw X cells slots tgt lv st ws) (kf : x = 0 → xw X cells slots (pc + 3) lv st ws) : xw X cells slots pc lv (.int x :: st) ws := by
  obtain ⟨⟨p, l, e, R, s, m, args, below, meth, c⟩, ⟨D, cl, A, tys, nX, Q⟩⟩ := X
  obtain ⟨rfl, rfl, rfl, rfl, rfl, hx, hb, hml, rfl, hown, hts, hK, hA, hlk⟩ := K
  intro H locs ls hP hD hS hl
  exact lv_if_ne hx hb d ht (fun h => kt h H locs ls hP hD hS hl) (fun h => kf h H locs ls hP hD hS hl)
theorem x_icmp_lt (K : xk X l0 R0 D0 cl0 tys0 cc own Ts nL) {x y : Int32} {off : Int} {tgt : Nat} (d : decode cc pc = .ok (.if_icmp .lt off, 3)) (ht : (pc : Int) + off = (tgt : Int)) (kt : x < y → xw X cells slots tgt lv st ws) (kf : ¬ x < y → xw X cells slots (pc + 3) lv st ws) : xw X cells slots pc lv (.int y :: .int x :: st) ws := by
  obtain ⟨⟨p, l, e, R, s, m, args, below, meth, c⟩, ⟨D, cl, A, tys, nX, Q⟩⟩ := X
  obtain ⟨rfl, rfl, rfl, rfl, rfl, hx, hb, hml, rfl, hown, hts, hK, hA, hlk⟩ := K
  intro H locs ls hP hD hS hl
  exact lv_icmp_lt hx hb d ht (fun h => kt h H locs ls hP hD hS hl) (fun h => kf h H locs ls hP hD hS hl)
theorem x_if_lt (K : xk X l0 R0 D0 cl0 tys0 cc own Ts nL) {x : Int32} {off : Int} {tgt : Nat} (d : decode cc pc = .ok (.ifCond .lt off, 3)) (ht : (pc : Int) + off = (tgt : Int)) (kt : x < 0 → xw X cells slots tgt lv st ws) (kf : ¬ x < 0 → xw X cells slots (pc + 3) lv st ws) : xw X cells slots pc lv (.int x :: st) ws := by
  obtain ⟨⟨p, l, e, R, s, m, args, below, meth, c⟩, ⟨D, cl, A, tys, nX, Q⟩⟩ := X
  obtain ⟨rfl, rfl, rfl, rfl, rfl, hx, hb, hml, rfl, hown, hts, hK, hA, hlk⟩ := K
  intro H locs ls hP hD hS hl
  exact lv_if_lt hx hb d ht (fun h => kt h H locs ls hP hD hS hl) (fun h => kf h H locs ls hP hD hS hl)
theorem x_icmp_ge (K : xk X l0 R0 D0 cl0 tys0 cc own Ts nL) {x y : Int32} {off : Int} {tgt : Nat} (d : decode cc pc = .ok (.if_icmp .ge off, 3)) (ht : (pc : Int) + off = (tgt : Int)) (kt : y ≤ x → xw X cells slots tgt lv st ws) (kf : ¬ y ≤ x → xw X cells slots (pc + 3) lv st ws) : xw X cells slots pc lv (.int y :: .int x :: st) ws := by
  obtain ⟨⟨p, l, e, R, s, m, args, below, meth, c⟩, ⟨D, cl, A, tys, nX, Q⟩⟩ := X
  obtain ⟨rfl, rfl, rfl, rfl, rfl, hx, hb, hml, rfl, hown, hts, hK, hA, hlk⟩ := K
  intro H locs ls hP hD hS hl
  exact lv_icmp_ge hx hb d ht (fun h => kt h H locs ls hP hD hS hl) (fun h => kf h H locs ls hP hD hS hl)
theorem x_if_ge (K : xk X l0 R0 D0 cl0 tys0 cc own Ts nL) {x : Int32} {off : Int} {tgt : Nat} (d : decode cc pc = .ok (.ifCond .ge off, 3)) (ht : (pc : Int) + off = (tgt : Int)) (kt : 0 ≤ x → xw X cells slots tgt lv st ws) (kf : ¬ 0 ≤ x → xw X cells slots (pc + 3) lv st ws) : xw X cells slots pc lv (.int x :: st) ws := by
  obtain ⟨⟨p, l, e, R, s, m, args, below, meth, c⟩, ⟨D, cl, A, tys, nX, Q⟩⟩ := X
  obtain ⟨rfl, rfl, rfl, rfl, rfl, hx, hb, hml, rfl, hown, hts, hK, hA, hlk⟩ := K
  intro H locs ls hP hD hS hl
  exact lv_if_ge hx hb d ht (fun h => kt h H locs ls hP hD hS hl) (fun h => kf h H locs ls hP hD hS hl)
theorem x_icmp_gt (K : xk X l0 R0 D0 cl0 tys0 cc own Ts nL) {x y : Int32} {off : Int} {tgt : Nat} (d : decode cc pc = .ok (.if_icmp .gt off, 3)) (ht : (pc : Int) + off = (tgt : Int)) (kt : y < x → xw X cells slots tgt lv st ws) (kf : ¬ y < x → xw X cells slots (pc + 3) lv st ws) : xw X cells slots pc lv (.int y :: .int x :: st) ws := by
  obtain ⟨⟨p, l, e, R, s, m, args, below, meth, c⟩, ⟨D, cl, A, tys, nX, Q⟩⟩ := X
  obtain ⟨rfl, rfl, rfl, rfl, rfl, hx, hb, hml, rfl, hown, hts, hK, hA, hlk⟩ := K
  intro H locs ls hP hD hS hl
  exact lv_icmp_gt hx hb d ht (fun h => kt h H locs ls hP hD hS hl) (fun h => kf h H locs ls hP hD hS hl)
theorem x_if_gt (K : xk X l0 R0 D0 cl0 tys0 cc own Ts nL) {x : Int32} {off : Int} {tgt : Nat} (d : decode cc pc = .ok (.ifCond .gt off, 3)) (ht : (pc : Int) + off = (tgt : Int)) (kt : 0 < x → xw X cells slots tgt lv st ws) (kf : ¬ 0 < x → xw X cells slots (pc + 3) lv st ws) : xw X cells slots pc lv (.int x :: st) ws := by
  obtain ⟨⟨p, l, e, R, s, m, args, below, meth, c⟩, ⟨D, cl, A, tys, nX, Q⟩⟩ := X
  obtain ⟨rfl, rfl, rfl, rfl, rfl, hx, hb, hml, rfl, hown, hts, hK, hA, hlk⟩ := K
  intro H locs ls hP hD hS hl
  exact lv_if_gt hx hb d ht (fun h => kt h H locs ls hP hD hS hl) (fun h => kf h H locs ls hP hD hS hl)
theorem x_icmp_le (K : xk X l0 R0 D0 cl0 tys0 cc own Ts nL) {x y : Int32} {off : Int} {tgt : Nat} (d : decode cc pc = .ok (.if_icmp .le off, 3)) (ht : (pc : Int) + off = (tgt : Int)) (kt : x ≤ y → xw X cells slots tgt lv st ws) (kf : ¬ x ≤ y → xw X cells slots (pc + 3) lv st ws) : xw X cells slots pc lv (.int y :: .int x :: st) ws := by
  obtain ⟨⟨p, l, e, R, s, m, args, below, meth, c⟩, ⟨D, cl, A, tys, nX, Q⟩⟩ := X
  obtain ⟨rfl, rfl, rfl, rfl, rfl, hx, hb, hml, rfl, hown, hts, hK, hA, hlk⟩ := K
  intro H locs ls hP hD hS hl
  exact lv_icmp_le hx hb d ht (fun h => kt h H locs ls hP hD hS hl) (fun h => kf h H locs ls hP hD hS hl)
theorem x_if_le (K : xk X l0 R0 D0 cl0 tys0 cc own Ts nL) {x : Int32} {off : Int} {tgt : Nat} (d : decode cc pc = .ok (.ifCond .le off, 3)) (ht : (pc : Int) + off = (tgt : Int)) (kt : x ≤ 0 → xw X cells slots tgt lv st ws) (kf : ¬ x ≤ 0 → xw X cells slots (pc + 3) lv st ws) : xw X cells slots pc lv (.int x :: st) ws := by
  obtain ⟨⟨p, l, e, R, s, m, args, below, meth, c⟩, ⟨D, cl, A, tys, nX, Q⟩⟩ := X
  obtain ⟨rfl, rfl, rfl, rfl, rfl, hx, hb, hml, rfl, hown, hts, hK, hA, hlk⟩ := K
  intro H locs ls hP hD hS hl
  exact lv_if_le hx hb d ht (fun h => kt h H locs ls hP hD hS hl) (fun h => kf h H locs ls hP hD hS hl)
theorem x_iald (K : xk X l0 R0 D0 cl0 tys0 cc own Ts nL) {a n : Nat} {cA : ClassId} {f : Nat → Int32} {i : Int32} (q0 t0 : Nat) (ht : tys0[t0]? = some (cA, .int)) (ha : ws[q0]? = some (a, .inl (cA, n, .inl f))) (hin : xin i n = true) (d : decode cc pc = .ok (.iaload, 1)) (kk : xw X cells slots (pc + 1) lv (.int (f i.toNatClampNeg) :: st) ws) : xw X cells slots pc lv (.int i :: .ref a :: st) ws := by
  obtain ⟨⟨p, l, e, R, s, m, args, below, meth, c⟩, ⟨D, cl, A, tys, nX, Q⟩⟩ := X
  obtain ⟨rfl, rfl, rfl, rfl, rfl, hx, hb, hml, rfl, hown, hts, hK, hA, hlk⟩ := K
  intro H locs ls hP hD hS hl
  exact va_iald hx hb hK hP q0 t0 ha ht (xin_of hin) d (kk H locs ls hP hD hS hl)
theorem x_lald (K : xk X l0 R0 D0 cl0 tys0 cc own Ts nL) {a n : Nat} {cA : ClassId} {f : Nat → Int64} {i : Int32} (q0 t0 : Nat) (ht : tys0[t0]? = some (cA, .long)) (ha : ws[q0]? = some (a, .inl (cA, n, .inr (.inl f)))) (hin : xin i n = true) (d : decode cc pc = .ok (.laload, 1)) (kk : xw X cells slots (pc + 1) lv (.long (f i.toNatClampNeg) :: st) ws) : xw X cells slots pc lv (.int i :: .ref a :: st) ws := by
  obtain ⟨⟨p, l, e, R, s, m, args, below, meth, c⟩, ⟨D, cl, A, tys, nX, Q⟩⟩ := X
  obtain ⟨rfl, rfl, rfl, rfl, rfl, hx, hb, hml, rfl, hown, hts, hK, hA, hlk⟩ := K
  intro H locs ls hP hD hS hl
  exact va_lald hx hb hK hP q0 t0 ha ht (xin_of hin) d (kk H locs ls hP hD hS hl)
theorem x_zald (K : xk X l0 R0 D0 cl0 tys0 cc own Ts nL) {a n : Nat} {cA : ClassId} {f : Nat → Int32} {i : Int32} (q0 t0 : Nat) (ht : tys0[t0]? = some (cA, .boolean)) (ha : ws[q0]? = some (a, .inl (cA, n, .inl f))) (hin : xin i n = true) (d : decode cc pc = .ok (.baload, 1)) (kk : xw X cells slots (pc + 1) lv (.int (f i.toNatClampNeg) :: st) ws) : xw X cells slots pc lv (.int i :: .ref a :: st) ws := by
  obtain ⟨⟨p, l, e, R, s, m, args, below, meth, c⟩, ⟨D, cl, A, tys, nX, Q⟩⟩ := X
  obtain ⟨rfl, rfl, rfl, rfl, rfl, hx, hb, hml, rfl, hown, hts, hK, hA, hlk⟩ := K
  intro H locs ls hP hD hS hl
  exact va_zald hx hb hK hP q0 t0 ha ht (xin_of hin) d (kk H locs ls hP hD hS hl)
theorem x_aald (K : xk X l0 R0 D0 cl0 tys0 cc own Ts nL) {a n : Nat} {cA : ClassId} {f : Nat → Option Nat} {i : Int32} {ty : FieldType} (q0 t0 : Nat) (ht : tys0[t0]? = some (cA, ty)) (hty : refKind ty = true) (ha : ws[q0]? = some (a, .inl (cA, n, .inr (.inr (.inr (.inr f)))))) (hin : xin i n = true) (d : decode cc pc = .ok (.aaload, 1)) (kk : xw X cells slots (pc + 1) lv (va_rf (f i.toNatClampNeg) :: st) ws) : xw X cells slots pc lv (.int i :: .ref a :: st) ws := by
  obtain ⟨⟨p, l, e, R, s, m, args, below, meth, c⟩, ⟨D, cl, A, tys, nX, Q⟩⟩ := X
  obtain ⟨rfl, rfl, rfl, rfl, rfl, hx, hb, hml, rfl, hown, hts, hK, hA, hlk⟩ := K
  intro H locs ls hP hD hS hl
  have hin2 := xin_of hin
  have hlt : i.toNatClampNeg < n := Nat.not_le.mp fun q => hin2 (Or.inr q)
  exact W.aald (v := va_rf (f i.toNatClampNeg)) (ty := ty) hx hb (hP q0 _ ha) ((hK.2 t0 _ ht).1 n (fun j => va_rf (f j))) hty (fun q => by cases q) (by show ¬ (i < 0 ∨ (arrV _ _ _).slots.size ≤ _); rw [arrV_size]; exact hin2) (by show (arrV _ _ _).slots[_]? = _; rw [arrV_read _ _ hlt]) rfl rfl d (kk H locs ls hP hD hS hl)
theorem x_iast (K : xk X l0 R0 D0 cl0 tys0 cc own Ts nL) {a n : Nat} {cA : ClassId} {f : Nat → Int32} {i : Int32} {x : Int32} {ws' : va_W} (q0 t0 : Nat) (ht : tys0[t0]? = some (cA, .int)) (ha : ws[q0]? = some (a, .inl (cA, n, .inl f))) (hw : ws.set q0 (a, .inl (cA, n, .inl (upd f i.toNatClampNeg x))) = ws') (hin : xin i n = true) (d : decode cc pc = .ok (.iastore, 1)) (kk : xw X cells slots (pc + 1) lv st ws') : xw X cells slots pc lv (.int x :: .int i :: .ref a :: st) ws := by
  obtain ⟨⟨p, l, e, R, s, m, args, below, meth, c⟩, ⟨D, cl, A, tys, nX, Q⟩⟩ := X
  obtain ⟨rfl, rfl, rfl, rfl, rfl, hx, hb, hml, rfl, hown, hts, hK, hA, hlk⟩ := K
  intro H locs ls hP hD hS hl
  subst hw
  exact va_iast hx hb hK hP hD hS q0 t0 ha ht (xin_of hin) d (fun H locs hP hD hS => kk H locs ls hP hD hS hl)
theorem x_last (K : xk X l0 R0 D0 cl0 tys0 cc own Ts nL) {a n : Nat} {cA : ClassId} {f : Nat → Int64} {i : Int32} {x : Int64} {ws' : va_W} (q0 t0 : Nat) (ht : tys0[t0]? = some (cA, .long)) (ha : ws[q0]? = some (a, .inl (cA, n, .inr (.inl f)))) (hw : ws.set q0 (a, .inl (cA, n, .inr (.inl (vp_updL f i.toNatClampNeg x)))) = ws') (hin : xin i n = true) (d : decode cc pc = .ok (.lastore, 1)) (kk : xw X cells slots (pc + 1) lv st ws') : xw X cells slots pc lv (.long x :: .int i :: .ref a :: st) ws := by
  obtain ⟨⟨p, l, e, R, s, m, args, below, meth, c⟩, ⟨D, cl, A, tys, nX, Q⟩⟩ := X
  obtain ⟨rfl, rfl, rfl, rfl, rfl, hx, hb, hml, rfl, hown, hts, hK, hA, hlk⟩ := K
  intro H locs ls hP hD hS hl
  subst hw
  exact va_last hx hb hK hP hD hS q0 t0 ha ht (xin_of hin) d (fun H locs hP hD hS => kk H locs ls hP hD hS hl)
theorem x_zast (K : xk X l0 R0 D0 cl0 tys0 cc own Ts nL) {a n : Nat} {cA : ClassId} {f : Nat → Int32} {i : Int32} {x : Int32} {ws' : va_W} (q0 t0 : Nat) (ht : tys0[t0]? = some (cA, .boolean)) (ha : ws[q0]? = some (a, .inl (cA, n, .inl f))) (hw : ws.set q0 (a, .inl (cA, n, .inl (upd f i.toNatClampNeg (vp_nar .boolean x)))) = ws') (hin : xin i n = true) (d : decode cc pc = .ok (.bastore, 1)) (kk : xw X cells slots (pc + 1) lv st ws') : xw X cells slots pc lv (.int x :: .int i :: .ref a :: st) ws := by
  obtain ⟨⟨p, l, e, R, s, m, args, below, meth, c⟩, ⟨D, cl, A, tys, nX, Q⟩⟩ := X
  obtain ⟨rfl, rfl, rfl, rfl, rfl, hx, hb, hml, rfl, hown, hts, hK, hA, hlk⟩ := K
  intro H locs ls hP hD hS hl
  subst hw
  exact va_zast hx hb hK hP hD hS q0 t0 ha ht (xin_of hin) d (fun H locs hP hD hS => kk H locs ls hP hD hS hl)
theorem x_alen (K : xk X l0 R0 D0 cl0 tys0 cc own Ts nL) {a n : Nat} {cA : ClassId} {z : ((Nat → Int32) ⊕ (Nat → Int64) ⊕ (Nat → UInt32) ⊕ (Nat → UInt64) ⊕ (Nat → Option Nat))} {ty : FieldType} (q0 t0 : Nat) (ht : tys0[t0]? = some (cA, ty)) (ha : ws[q0]? = some (a, .inl (cA, n, z))) (d : decode cc pc = .ok (.arraylength, 1)) (kk : xw X cells slots (pc + 1) lv (.int (nI n) :: st) ws) : xw X cells slots pc lv (.ref a :: st) ws := by
  obtain ⟨⟨p, l, e, R, s, m, args, below, meth, c⟩, ⟨D, cl, A, tys, nX, Q⟩⟩ := X
  obtain ⟨rfl, rfl, rfl, rfl, rfl, hx, hb, hml, rfl, hown, hts, hK, hA, hlk⟩ := K
  intro H locs ls hP hD hS hl
  exact va_alen hx hb hK hP q0 t0 ha ht rfl d (kk H locs ls hP hD hS hl)
theorem x_get (K : xk X l0 R0 D0 cl0 tys0 cc own Ts nL) {ref C : String} {T : u_T} {N ci index a : Nat} {fs : List Value} {v : Value} (hin : ∀ w ∈ u_ws C T N, w ∈ Ts) (q0 : Nat) (hc : cl0[ci]? = some (C, T, N)) (he : ws[q0]? = some (a, .inr (ci, fs))) (k : Nat) (hk : k < N) (hlink : Cond.fieldLink own index ref (T k).2.1 (T k).2.2.1 ∈ Ts) (hs : (T k).1 = ref) (hv : fs[k]? = some v) (d : decode cc pc = .ok (.getfield index, 3)) (kk : xw X cells slots (pc + 3) lv (v :: st) ws) : xw X cells slots pc lv (.ref a :: st) ws := by
  obtain ⟨⟨p, l, e, R, s, m, args, below, meth, c⟩, ⟨D, cl, A, tys, nX, Q⟩⟩ := X
  obtain ⟨rfl, rfl, rfl, rfl, rfl, hx, hb, hml, rfl, hown, hts, hK, hA, hlk⟩ := K
  intro H locs ls hP hD hS hl
  subst hs
  exact va_get hx hb hts hin hown hK hP q0 he hc k hk (hts _ hlink) (fun _ h => h) hv d (kk H locs ls hP hD hS hl)
theorem x_put (K : xk X l0 R0 D0 cl0 tys0 cc own Ts nL) {ref C : String} {T : u_T} {N ci index a : Nat} {fs : List Value} {v : Value} {ws' : va_W} (hin : ∀ w ∈ u_ws C T N, w ∈ Ts) (ty0 : Nat → FieldType) (hty : ∀ k, k < N → parseFieldDescriptor (T k).2.2.1 = some (ty0 k)) (hnm : ∀ a, a < N → ∀ b, b < N → a ≠ b → (T a).2.1 ≠ (T b).2.1) (q0 : Nat) (hc : cl0[ci]? = some (C, T, N)) (he : ws[q0]? = some (a, .inr (ci, fs))) (k : Nat) (hk : k < N) (hlink : Cond.fieldLink own index ref (T k).2.1 (T k).2.2.1 ∈ Ts) (hs : (T k).1 = ref) (hfin : (T k).2.2.2 = false) {ty : FieldType} (hd : parseFieldDescriptor (T k).2.2.1 = some ty) (hn : narrow ty v = v) (hfit : fits ty v = true) (hlen : k < fs.length) (hw : ws.set q0 (a, .inr (ci, fs.set k v)) = ws') (d : decode cc pc = .ok (.putfield index, 3)) (kk : xw X cells slots (pc + 3) lv st ws') : xw X cells slots pc lv (v :: .ref a :: st) ws := by
  obtain ⟨⟨p, l, e, R, s, m, args, below, meth, c⟩, ⟨D, cl, A, tys, nX, Q⟩⟩ := X
  obtain ⟨rfl, rfl, rfl, rfl, rfl, hx, hb, hml, rfl, hown, hts, hK, hA, hlk⟩ := K
  intro H locs ls hP hD hS hl
  subst hs
  subst hw
  exact va_put hx hb hts hin ty0 hty hnm hown hK hP hD hS q0 he hc k hk (hts _ hlink) (fun _ h => h) hfin hd hn hfit hlen d (fun H locs hP hD hS => kk H locs ls hP hD hS hl)
def xmax (x y : Int32) : Int32 := if x < y then y else x
theorem x_mmax (K : xk X l0 R0 D0 cl0 tys0 cc own Ts nL) {index : Nat} {x y : Int32} (hlink : Cond.methodLink own index Lib.Math.max.name ∈ Ts) (hstat : Cond.static Lib.Math.max.name ∈ Ts) (hini : Cond.initialized "java/lang/Math" ∈ Ts) (hcode : Cond.code Lib.Math.max.name Lib.Math.max.code 2 (some .int) ∈ Ts) (hR : 1 ≤ R0.frames ∧ (st.map fun v => v.category).sum + 13 ≤ R0.locals) (hf : cells ≤ R0.cells ∧ slots ≤ R0.slots) (d : decode cc pc = .ok (.invokestatic index, 3)) (kk : xw X cells slots (pc + 3) lv (.int (xmax x y) :: st) ws) : xw X cells slots pc lv (.int y :: .int x :: st) ws := by
  obtain ⟨⟨p, l, e, R, s, m, args, below, meth, c⟩, ⟨D, cl, A, tys, nX, Q⟩⟩ := X
  obtain ⟨rfl, rfl, rfl, rfl, rfl, hx, hb, hml, rfl, hown, hts, hK, hA, hlk⟩ := K
  intro H locs ls hP hD hS hl
  exact va_mmax hx hb (by rw [hml, hl.1]) hown (hts _ hlink) (hts _ hstat) (hts _ hini) (hts _ hcode) hR.1 hR.2 hf.1 hf.2 d (kk H locs ls hP hD hS hl)
theorem x_copyi (K : xk X l0 R0 D0 cl0 tys0 cc own Ts nL) {index : Nat} {a0 a n0 n1 : Nat} {c0 c1 : ClassId} {f g : Nat → Int32} {ws' : va_W} {sp dp n : Int32} (hlink : Cond.methodLink own index arraycopyName ∈ Ts) (hnat : Cond.native arraycopyName ∈ Ts) (hstat : Cond.static arraycopyName ∈ Ts) (hini : Cond.initialized "java/lang/System" ∈ Ts) (q0 q1 t0 : Nat) (ha0 : ws[q0]? = some (a0, .inl (c0, n0, .inl f))) (ha1 : ws[q1]? = some (a, .inl (c1, n1, .inl g))) (ht0 : tys0[t0]? = some (c0, .int)) (ht1 : tys0[t0]? = some (c1, .int)) (h1 : ¬ sp < 0) (h2 : ¬ dp < 0) (h3 : ¬ n < 0) (h4 : sp.toNatClampNeg + n.toNatClampNeg ≤ n0) (h5 : dp.toNatClampNeg + n.toNatClampNeg ≤ n1) (hR : 1 ≤ R0.frames ∧ (st.map fun v => v.category).sum + (nativeFrameWords "java/lang/System" "arraycopy" 5 + 11) ≤ R0.locals) (d : decode cc pc = .ok (.invokestatic index, 3)) (hw : ws.set q1 (a, .inl (c1, n1, .inl (va_cpy f g sp.toNatClampNeg dp.toNatClampNeg n.toNatClampNeg))) = ws') (kk : xw X cells slots (pc + 3) lv st ws') : xw X cells slots pc lv (.int n :: .int dp :: .ref a :: .int sp :: .ref a0 :: st) ws := by
  obtain ⟨⟨p, l, e, R, s, m, args, below, meth, c⟩, ⟨D, cl, A, tys, nX, Q⟩⟩ := X
  obtain ⟨rfl, rfl, rfl, rfl, rfl, hx, hb, hml, rfl, hown, hts, hK, hA, hlk⟩ := K
  intro H locs ls hP hD hS hl
  subst hw
  exact va_copyi hx hb (by rw [hml, hl.1]) hown (hts _ hlink) (hts _ hnat) (hts _ hstat) (hts _ hini) hK hP hD hS q0 q1 t0 t0 ha0 ha1 ht0 ht1 rfl h1 h2 h3 h4 h5 (fun i hi => rfl) hR.1 hR.2 d (fun H locs hP hD hS => kk H locs ls hP hD hS hl)
end XR
end
section
/-! contracts and calls over xw -/
def xPre (D : va_G) (cl : List vw_C) (tys : List (ClassId × FieldType)) (ws : va_W) (sz : Nat) (av : List Value) : Array Value → State → Prop := va_Pc av (fun U => U.heap.size = sz ∧ va_P D cl ws U.heap ∧ va_K D cl tys U ∧ va_D (fun _ => True) ws)
def xB (D : va_G) (cl : List vw_C) (tys : List (ClassId × FieldType)) (A : Nat → Prop) (ws : va_W) (t : State) : Prop := va_P D cl ws t.heap ∧ va_K D cl tys t ∧ va_D A ws
/-- statics of the JDK and texts that a throw needs -/
def xE (own : String) (L : List (Nat × String)) (A : Nat → Prop) (U : State) : Prop := vx_Zq Bundle.tN "UNASSIGNED_STACK" Bundle.steD A U U.heap ∧ vx_Zq Bundle.tN "SUPPRESSED_SENTINEL" Bundle.listD A U U.heap ∧ ∀ q ∈ L, ∃ sa, vk_R own q.1 q.2 sa U
def xPreT (D : va_G) (cl : List vw_C) (tys : List (ClassId × FieldType)) (ws : va_W) (sz : Nat) (av : List Value) (own : String) (L : List (Nat × String)) : Array Value → State → Prop := va_Pc av (fun U => U.heap.size = sz ∧ va_P D cl ws U.heap ∧ va_K D cl tys U ∧ va_D (fun _ => True) ws ∧ xE own L (va_A ws sz) U)
theorem xPre_blind {D : va_G} {cl : List vw_C} {tys : List (ClassId × FieldType)} {ws : va_W} {sz : Nat} {av : List Value} : FrameBlind (xPre D cl tys ws sz av) := fun a U g mk q => by
  obtain ⟨q0, q1, qP, qK, qD⟩ := q
  exact ⟨q0, q1, qP, va_K.moved (u := U) (U := U.calling g mk a) (Vm.Alike.refl U.vm) qK, qD⟩
theorem xPreT_blind {D : va_G} {cl : List vw_C} {tys : List (ClassId × FieldType)} {ws : va_W} {sz : Nat} {av : List Value} {own : String} {L : List (Nat × String)} : FrameBlind (xPreT D cl tys ws sz av own L) := fun a U g mk q => by
  obtain ⟨q0, q1, qP, qK, qD, e1, e2, e3⟩ := q
  refine ⟨q0, q1, qP, va_K.moved (u := U) (U := U.calling g mk a) (Vm.Alike.refl U.vm) qK, qD, vx_Zq.moved (u := U) (U := U.calling g mk a) (Vm.Alike.refl U.vm) e1, vx_Zq.moved (u := U) (U := U.calling g mk a) (Vm.Alike.refl U.vm) e2, fun z hz => ?_⟩
  obtain ⟨sa, h⟩ := e3 z hz
  exact ⟨sa, vk_R.same rfl h⟩

def xMi (l : Launch) (y : MethodName) (w : List Cond) (rm : Room) (D : va_G) (cl : List vw_C) (tys : List (ClassId × FieldType)) (ws : va_W) (av : List Value) {σ : Type} (wf : σ → va_W) (P : Int32 → σ → Prop) : Prop := ∀ sz : Nat, Met l y w rm (xPre D cl tys ws sz av) (va_Qi P (fun u t => xB D cl tys (va_A ws sz) (wf u) t) (va_A ws sz)) 0 0 (va_A ws sz)
/-- the same, or it throws an exception of a class that T names, with its world as it was -/
def xTi (l : Launch) (y : MethodName) (w : List Cond) (rm : Room) (D : va_G) (cl : List vw_C) (tys : List (ClassId × FieldType)) (ws : va_W) (av : List Value) (own : String) (L : List (Nat × String)) {σ : Type} (wf : σ → va_W) (P : Int32 → σ → Prop) (T : String → Prop) : Prop := ∀ sz : Nat, vx_Met l y w rm (xPreT D cl tys ws sz av own L) (va_Qi P (fun u t => xB D cl tys (va_A ws sz) (wf u) t) (va_A ws sz)) (vx_X (fun _ : Unit => True) (fun E _ t => T E ∧ xB D cl tys (va_A ws sz) ws t) (va_A ws sz)) 1 6 (va_A ws sz)
/-- the way out of a method -/
def xei (X : xC) (cc : ByteArray) (mc ms : Nat) {σ : Type} (wf : σ → va_W) (P : Int32 → σ → Prop) : Prop := ∀ (r : Int32) (u : σ) (pc : Nat) (lv : List (Nat × Value)), P r u → decode cc pc = .ok (.ireturn, 1) → xw X mc ms pc lv [.int r] (wf u)
/-- what a method that throws knows: statics and texts; no handlers; the way out -/
def xth : xC → va_W → String → List (Nat × String) → (String → Prop) → Prop
  | ((_, _, _, _, s, _, args, below, _, c), (D, cl, A, tys, _, Q)), ws, own, L, T => xE own L A s ∧ (∀ x ∈ c.exceptionTable.toList, False) ∧ ∀ E, T E → (∀ t : State, va_P D cl ws t.heap → va_F A s t → s.vm.Alike t.vm → vx_X (fun _ : Unit => True) (fun E _ t => T E ∧ xB D cl tys A ws t) A E s t) ∧ ∃ Qc, Q = vx_MQ below Qc (vx_X (fun _ : Unit => True) (fun E _ t => T E ∧ xB D cl tys A ws t) A) args s 1 6 A
theorem xMi_of {l : Launch} {y : MethodName} {w w' : List Cond} {rm : Room} {D : va_G} {cl : List vw_C} {tys : List (ClassId × FieldType)} {ws : va_W} {av : List Value} {σ : Type} {wf : σ → va_W} {P : Int32 → σ → Prop} {cc : ByteArray} {maxL : Nat}
    (hy : plainName y.cls = true) (hw : w = Cond.code y cc maxL (some .int) :: w') (hav : (lg_sl av).length ≤ maxL)
    (body : ∀ X : xC, xk X l rm D cl tys cc y.cls w maxL → xei X cc 0 0 wf P → xw X 0 0 0 (lv_args 0 av) [] ws) : xMi l y w rm D cl tys ws av wf P := by
  intro sz
  refine Met.ofW (cc := cc) (maxL := maxL) (ret := some .int) hy hw ?_
  intro p e s m args below meth c s₁ B hml hv
  obtain ⟨rfl, hsz, hP, hK, hD0⟩ := hv
  have hx := B.exec
  have hb := B.bytes
  have hr := B.returns
  have hts := atoms_spec (ws := w) B.pre
  have hown : s.vm.findClass y.cls = some m.cls := findClass_of_methodNamed B.named
  have hlocks := B.notSynchronized
  subst hsz
  have hD := hD0.self (sz := s.heap.size)
  have hS : va_S (va_A ws s.heap.size) s.heap s.heap [] := va_S.rf
  have hl := lv_entry av (n := maxL) hav
  rw [lg_entry_eq]
  exact body ((p, l, e, rm, s, m, av.toArray, below, meth, c), (D, cl, va_A ws s.heap.size, tys, maxL, MQ below (va_Qi P (fun u t => xB D cl tys (va_A ws s.heap.size) (wf u) t) (va_A ws s.heap.size)) av.toArray s 0 0 (va_A ws s.heap.size)))
    ⟨rfl, rfl, rfl, rfl, rfl, hx, hb, hml, rfl, hown, hts, hK, fun q h => Or.inr h, hlocks⟩
    (by
      intro r u pc lv hp hd H locs ls hP hD hS hl
      exact W.iret (v := r) hx hb hr (fun t ht hW => ⟨⟨r, u, rfl, hp, by rw [ht]; exact hP, va_K.moved hW.alike hK, hD⟩, hS.F ht⟩) hS.2.2 hd)
    s.heap [] _ hP hD hS hl
theorem xTi_of {l : Launch} {y : MethodName} {w w' : List Cond} {rm : Room} {D : va_G} {cl : List vw_C} {tys : List (ClassId × FieldType)} {ws : va_W} {av : List Value} {own : String} {L : List (Nat × String)} {σ : Type} {wf : σ → va_W} {P : Int32 → σ → Prop} {T : String → Prop} {cc : ByteArray} {maxL : Nat}
    (hy : plainName y.cls = true) (hw : w = Cond.code y cc maxL (some .int) :: w') (hav : (lg_sl av).length ≤ maxL)
    (body : ∀ X : xC, xk X l rm D cl tys cc y.cls w maxL → xei X cc 1 6 wf P → xth X ws own L T → xw X 0 0 0 (lv_args 0 av) [] ws) : xTi l y w rm D cl tys ws av own L wf P T := by
  intro sz
  refine vx_ofW (cc := cc) (maxL := maxL) (ret := some .int) hy hw ?_
  intro p e s m args below meth c s₁ B hml hno hv
  obtain ⟨rfl, hsz, hP, hK, hD0, hE⟩ := hv
  have hx := B.exec
  have hb := B.bytes
  have hr := B.returns
  have hts := atoms_spec (ws := w) B.pre
  have hown : s.vm.findClass y.cls = some m.cls := findClass_of_methodNamed B.named
  have hlocks := B.notSynchronized
  subst hsz
  have hD := hD0.self (sz := s.heap.size)
  have hS : va_S (va_A ws s.heap.size) s.heap s.heap [] := va_S.rf
  have hl := lv_entry av (n := maxL) hav
  rw [lg_entry_eq]
  exact body ((p, l, e, rm, s, m, av.toArray, below, meth, c), (D, cl, va_A ws s.heap.size, tys, maxL, vx_MQ below (va_Qi P (fun u t => xB D cl tys (va_A ws s.heap.size) (wf u) t) (va_A ws s.heap.size)) (vx_X (fun _ : Unit => True) (fun E _ t => T E ∧ xB D cl tys (va_A ws s.heap.size) ws t) (va_A ws s.heap.size)) av.toArray s 1 6 (va_A ws s.heap.size)))
    ⟨rfl, rfl, rfl, rfl, rfl, hx, hb, hml, rfl, hown, hts, hK, fun q h => Or.inr h, hlocks⟩
    (by
      intro r u pc lv hp hd H locs ls hP hD hS hl
      exact vx_ret (W.iret (v := r) hx hb hr (fun t ht hW => ⟨⟨r, u, rfl, hp, by rw [ht]; exact hP, va_K.moved hW.alike hK, hD⟩, hS.F ht⟩) hS.2.2 hd))
    ⟨hE, fun x hx => absurd (hno x hx) id, fun E hT => ⟨fun t h1 h2 h3 => ⟨(), trivial, ⟨hT, h1, va_K.moved h3 hK, hD⟩, h2⟩, _, rfl⟩⟩
    s.heap [] _ hP hD hS hl
def xMl (l : Launch) (y : MethodName) (w : List Cond) (rm : Room) (D : va_G) (cl : List vw_C) (tys : List (ClassId × FieldType)) (ws : va_W) (av : List Value) {σ : Type} (wf : σ → va_W) (P : Int64 → σ → Prop) : Prop := ∀ sz : Nat, Met l y w rm (xPre D cl tys ws sz av) (va_Ql P (fun u t => xB D cl tys (va_A ws sz) (wf u) t) (va_A ws sz)) 0 0 (va_A ws sz)
/-- the same, or it throws an exception of a class that T names, with its world as it was -/
def xTl (l : Launch) (y : MethodName) (w : List Cond) (rm : Room) (D : va_G) (cl : List vw_C) (tys : List (ClassId × FieldType)) (ws : va_W) (av : List Value) (own : String) (L : List (Nat × String)) {σ : Type} (wf : σ → va_W) (P : Int64 → σ → Prop) (T : String → Prop) : Prop := ∀ sz : Nat, vx_Met l y w rm (xPreT D cl tys ws sz av own L) (va_Ql P (fun u t => xB D cl tys (va_A ws sz) (wf u) t) (va_A ws sz)) (vx_X (fun _ : Unit => True) (fun E _ t => T E ∧ xB D cl tys (va_A ws sz) ws t) (va_A ws sz)) 1 6 (va_A ws sz)
/-- the way out of a method -/
def xel (X : xC) (cc : ByteArray) (mc ms : Nat) {σ : Type} (wf : σ → va_W) (P : Int64 → σ → Prop) : Prop := ∀ (r : Int64) (u : σ) (pc : Nat) (lv : List (Nat × Value)), P r u → decode cc pc = .ok (.lreturn, 1) → xw X mc ms pc lv [.long r] (wf u)
theorem xMl_of {l : Launch} {y : MethodName} {w w' : List Cond} {rm : Room} {D : va_G} {cl : List vw_C} {tys : List (ClassId × FieldType)} {ws : va_W} {av : List Value} {σ : Type} {wf : σ → va_W} {P : Int64 → σ → Prop} {cc : ByteArray} {maxL : Nat}
    (hy : plainName y.cls = true) (hw : w = Cond.code y cc maxL (some .long) :: w') (hav : (lg_sl av).length ≤ maxL)
    (body : ∀ X : xC, xk X l rm D cl tys cc y.cls w maxL → xel X cc 0 0 wf P → xw X 0 0 0 (lv_args 0 av) [] ws) : xMl l y w rm D cl tys ws av wf P := by
  intro sz
  refine Met.ofW (cc := cc) (maxL := maxL) (ret := some .long) hy hw ?_
  intro p e s m args below meth c s₁ B hml hv
  obtain ⟨rfl, hsz, hP, hK, hD0⟩ := hv
  have hx := B.exec
  have hb := B.bytes
  have hr := B.returns
  have hts := atoms_spec (ws := w) B.pre
  have hown : s.vm.findClass y.cls = some m.cls := findClass_of_methodNamed B.named
  have hlocks := B.notSynchronized
  subst hsz
  have hD := hD0.self (sz := s.heap.size)
  have hS : va_S (va_A ws s.heap.size) s.heap s.heap [] := va_S.rf
  have hl := lv_entry av (n := maxL) hav
  rw [lg_entry_eq]
  exact body ((p, l, e, rm, s, m, av.toArray, below, meth, c), (D, cl, va_A ws s.heap.size, tys, maxL, MQ below (va_Ql P (fun u t => xB D cl tys (va_A ws s.heap.size) (wf u) t) (va_A ws s.heap.size)) av.toArray s 0 0 (va_A ws s.heap.size)))
    ⟨rfl, rfl, rfl, rfl, rfl, hx, hb, hml, rfl, hown, hts, hK, fun q h => Or.inr h, hlocks⟩
    (by
      intro r u pc lv hp hd H locs ls hP hD hS hl
      exact W.lret (v := r) hx hb hr (fun t ht hW => ⟨⟨r, u, rfl, hp, by rw [ht]; exact hP, va_K.moved hW.alike hK, hD⟩, hS.F ht⟩) hS.2.2 hd)
    s.heap [] _ hP hD hS hl
theorem xTl_of {l : Launch} {y : MethodName} {w w' : List Cond} {rm : Room} {D : va_G} {cl : List vw_C} {tys : List (ClassId × FieldType)} {ws : va_W} {av : List Value} {own : String} {L : List (Nat × String)} {σ : Type} {wf : σ → va_W} {P : Int64 → σ → Prop} {T : String → Prop} {cc : ByteArray} {maxL : Nat}
    (hy : plainName y.cls = true) (hw : w = Cond.code y cc maxL (some .long) :: w') (hav : (lg_sl av).length ≤ maxL)
    (body : ∀ X : xC, xk X l rm D cl tys cc y.cls w maxL → xel X cc 1 6 wf P → xth X ws own L T → xw X 0 0 0 (lv_args 0 av) [] ws) : xTl l y w rm D cl tys ws av own L wf P T := by
  intro sz
  refine vx_ofW (cc := cc) (maxL := maxL) (ret := some .long) hy hw ?_
  intro p e s m args below meth c s₁ B hml hno hv
  obtain ⟨rfl, hsz, hP, hK, hD0, hE⟩ := hv
  have hx := B.exec
  have hb := B.bytes
  have hr := B.returns
  have hts := atoms_spec (ws := w) B.pre
  have hown : s.vm.findClass y.cls = some m.cls := findClass_of_methodNamed B.named
  have hlocks := B.notSynchronized
  subst hsz
  have hD := hD0.self (sz := s.heap.size)
  have hS : va_S (va_A ws s.heap.size) s.heap s.heap [] := va_S.rf
  have hl := lv_entry av (n := maxL) hav
  rw [lg_entry_eq]
  exact body ((p, l, e, rm, s, m, av.toArray, below, meth, c), (D, cl, va_A ws s.heap.size, tys, maxL, vx_MQ below (va_Ql P (fun u t => xB D cl tys (va_A ws s.heap.size) (wf u) t) (va_A ws s.heap.size)) (vx_X (fun _ : Unit => True) (fun E _ t => T E ∧ xB D cl tys (va_A ws s.heap.size) ws t) (va_A ws s.heap.size)) av.toArray s 1 6 (va_A ws s.heap.size)))
    ⟨rfl, rfl, rfl, rfl, rfl, hx, hb, hml, rfl, hown, hts, hK, fun q h => Or.inr h, hlocks⟩
    (by
      intro r u pc lv hp hd H locs ls hP hD hS hl
      exact vx_ret (W.lret (v := r) hx hb hr (fun t ht hW => ⟨⟨r, u, rfl, hp, by rw [ht]; exact hP, va_K.moved hW.alike hK, hD⟩, hS.F ht⟩) hS.2.2 hd))
    ⟨hE, fun x hx => absurd (hno x hx) id, fun E hT => ⟨fun t h1 h2 h3 => ⟨(), trivial, ⟨hT, h1, va_K.moved h3 hK, hD⟩, h2⟩, _, rfl⟩⟩
    s.heap [] _ hP hD hS hl
def xMv (l : Launch) (y : MethodName) (w : List Cond) (rm : Room) (D : va_G) (cl : List vw_C) (tys : List (ClassId × FieldType)) (ws : va_W) (av : List Value) {σ : Type} (wf : σ → va_W) (P : σ → Prop) : Prop := ∀ sz : Nat, Met l y w rm (xPre D cl tys ws sz av) (va_Qv P (fun u t => xB D cl tys (va_A ws sz) (wf u) t) (va_A ws sz)) 0 0 (va_A ws sz)
/-- the same, or it throws an exception of a class that T names, with its world as it was -/
def xTv (l : Launch) (y : MethodName) (w : List Cond) (rm : Room) (D : va_G) (cl : List vw_C) (tys : List (ClassId × FieldType)) (ws : va_W) (av : List Value) (own : String) (L : List (Nat × String)) {σ : Type} (wf : σ → va_W) (P : σ → Prop) (T : String → Prop) : Prop := ∀ sz : Nat, vx_Met l y w rm (xPreT D cl tys ws sz av own L) (va_Qv P (fun u t => xB D cl tys (va_A ws sz) (wf u) t) (va_A ws sz)) (vx_X (fun _ : Unit => True) (fun E _ t => T E ∧ xB D cl tys (va_A ws sz) ws t) (va_A ws sz)) 1 6 (va_A ws sz)
/-- the way out of a method -/
def xev (X : xC) (cc : ByteArray) (mc ms : Nat) {σ : Type} (wf : σ → va_W) (P : σ → Prop) : Prop := ∀ (u : σ) (pc : Nat) (lv : List (Nat × Value)), P u → decode cc pc = .ok (.return_, 1) → xw X mc ms pc lv [] (wf u)
theorem xMv_of {l : Launch} {y : MethodName} {w w' : List Cond} {rm : Room} {D : va_G} {cl : List vw_C} {tys : List (ClassId × FieldType)} {ws : va_W} {av : List Value} {σ : Type} {wf : σ → va_W} {P : σ → Prop} {cc : ByteArray} {maxL : Nat}
    (hy : plainName y.cls = true) (hw : w = Cond.code y cc maxL (none) :: w') (hav : (lg_sl av).length ≤ maxL)
    (body : ∀ X : xC, xk X l rm D cl tys cc y.cls w maxL → xev X cc 0 0 wf P → xw X 0 0 0 (lv_args 0 av) [] ws) : xMv l y w rm D cl tys ws av wf P := by
  intro sz
  refine Met.ofW (cc := cc) (maxL := maxL) (ret := none) hy hw ?_
  intro p e s m args below meth c s₁ B hml hv
  obtain ⟨rfl, hsz, hP, hK, hD0⟩ := hv
  have hx := B.exec
  have hb := B.bytes
  have hr := B.returns
  have hts := atoms_spec (ws := w) B.pre
  have hown : s.vm.findClass y.cls = some m.cls := findClass_of_methodNamed B.named
  have hlocks := B.notSynchronized
  subst hsz
  have hD := hD0.self (sz := s.heap.size)
  have hS : va_S (va_A ws s.heap.size) s.heap s.heap [] := va_S.rf
  have hl := lv_entry av (n := maxL) hav
  rw [lg_entry_eq]
  exact body ((p, l, e, rm, s, m, av.toArray, below, meth, c), (D, cl, va_A ws s.heap.size, tys, maxL, MQ below (va_Qv P (fun u t => xB D cl tys (va_A ws s.heap.size) (wf u) t) (va_A ws s.heap.size)) av.toArray s 0 0 (va_A ws s.heap.size)))
    ⟨rfl, rfl, rfl, rfl, rfl, hx, hb, hml, rfl, hown, hts, hK, fun q h => Or.inr h, hlocks⟩
    (by
      intro u pc lv hp hd H locs ls hP hD hS hl
      exact W.vret hx hb hr (fun t ht hW => ⟨⟨u, rfl, hp, by rw [ht]; exact hP, va_K.moved hW.alike hK, hD⟩, hS.F ht⟩) hS.2.2 hd)
    s.heap [] _ hP hD hS hl
theorem xTv_of {l : Launch} {y : MethodName} {w w' : List Cond} {rm : Room} {D : va_G} {cl : List vw_C} {tys : List (ClassId × FieldType)} {ws : va_W} {av : List Value} {own : String} {L : List (Nat × String)} {σ : Type} {wf : σ → va_W} {P : σ → Prop} {T : String → Prop} {cc : ByteArray} {maxL : Nat}
    (hy : plainName y.cls = true) (hw : w = Cond.code y cc maxL (none) :: w') (hav : (lg_sl av).length ≤ maxL)
    (body : ∀ X : xC, xk X l rm D cl tys cc y.cls w maxL → xev X cc 1 6 wf P → xth X ws own L T → xw X 0 0 0 (lv_args 0 av) [] ws) : xTv l y w rm D cl tys ws av own L wf P T := by
  intro sz
  refine vx_ofW (cc := cc) (maxL := maxL) (ret := none) hy hw ?_
  intro p e s m args below meth c s₁ B hml hno hv
  obtain ⟨rfl, hsz, hP, hK, hD0, hE⟩ := hv
  have hx := B.exec
  have hb := B.bytes
  have hr := B.returns
  have hts := atoms_spec (ws := w) B.pre
  have hown : s.vm.findClass y.cls = some m.cls := findClass_of_methodNamed B.named
  have hlocks := B.notSynchronized
  subst hsz
  have hD := hD0.self (sz := s.heap.size)
  have hS : va_S (va_A ws s.heap.size) s.heap s.heap [] := va_S.rf
  have hl := lv_entry av (n := maxL) hav
  rw [lg_entry_eq]
  exact body ((p, l, e, rm, s, m, av.toArray, below, meth, c), (D, cl, va_A ws s.heap.size, tys, maxL, vx_MQ below (va_Qv P (fun u t => xB D cl tys (va_A ws s.heap.size) (wf u) t) (va_A ws s.heap.size)) (vx_X (fun _ : Unit => True) (fun E _ t => T E ∧ xB D cl tys (va_A ws s.heap.size) ws t) (va_A ws s.heap.size)) av.toArray s 1 6 (va_A ws s.heap.size)))
    ⟨rfl, rfl, rfl, rfl, rfl, hx, hb, hml, rfl, hown, hts, hK, fun q h => Or.inr h, hlocks⟩
    (by
      intro u pc lv hp hd H locs ls hP hD hS hl
      exact vx_ret (W.vret hx hb hr (fun t ht hW => ⟨⟨u, rfl, hp, by rw [ht]; exact hP, va_K.moved hW.alike hK, hD⟩, hS.F ht⟩) hS.2.2 hd))
    ⟨hE, fun x hx => absurd (hno x hx) id, fun E hT => ⟨fun t h1 h2 h3 => ⟨(), trivial, ⟨hT, h1, va_K.moved h3 hK, hD⟩, h2⟩, _, rfl⟩⟩
    s.heap [] _ hP hD hS hl
def xMz (l : Launch) (y : MethodName) (w : List Cond) (rm : Room) (D : va_G) (cl : List vw_C) (tys : List (ClassId × FieldType)) (ws : va_W) (av : List Value) {σ : Type} (wf : σ → va_W) (P : Int32 → σ → Prop) : Prop := ∀ sz : Nat, Met l y w rm (xPre D cl tys ws sz av) (va_Qi P (fun u t => xB D cl tys (va_A ws sz) (wf u) t) (va_A ws sz)) 0 0 (va_A ws sz)
/-- the same, or it throws an exception of a class that T names, with its world as it was -/
def xTz (l : Launch) (y : MethodName) (w : List Cond) (rm : Room) (D : va_G) (cl : List vw_C) (tys : List (ClassId × FieldType)) (ws : va_W) (av : List Value) (own : String) (L : List (Nat × String)) {σ : Type} (wf : σ → va_W) (P : Int32 → σ → Prop) (T : String → Prop) : Prop := ∀ sz : Nat, vx_Met l y w rm (xPreT D cl tys ws sz av own L) (va_Qi P (fun u t => xB D cl tys (va_A ws sz) (wf u) t) (va_A ws sz)) (vx_X (fun _ : Unit => True) (fun E _ t => T E ∧ xB D cl tys (va_A ws sz) ws t) (va_A ws sz)) 1 6 (va_A ws sz)
def xbool (r : Int32) : Prop := narrow .boolean (.int r) = .int r
/-- the way out of a method -/
def xez (X : xC) (cc : ByteArray) (mc ms : Nat) {σ : Type} (wf : σ → va_W) (P : Int32 → σ → Prop) : Prop := ∀ (r : Int32) (u : σ) (pc : Nat) (lv : List (Nat × Value)), P r u → xbool r → decode cc pc = .ok (.ireturn, 1) → xw X mc ms pc lv [.int r] (wf u)
theorem xMz_of {l : Launch} {y : MethodName} {w w' : List Cond} {rm : Room} {D : va_G} {cl : List vw_C} {tys : List (ClassId × FieldType)} {ws : va_W} {av : List Value} {σ : Type} {wf : σ → va_W} {P : Int32 → σ → Prop} {cc : ByteArray} {maxL : Nat}
    (hy : plainName y.cls = true) (hw : w = Cond.code y cc maxL (some .boolean) :: w') (hav : (lg_sl av).length ≤ maxL)
    (body : ∀ X : xC, xk X l rm D cl tys cc y.cls w maxL → xez X cc 0 0 wf P → xw X 0 0 0 (lv_args 0 av) [] ws) : xMz l y w rm D cl tys ws av wf P := by
  intro sz
  refine Met.ofW (cc := cc) (maxL := maxL) (ret := some .boolean) hy hw ?_
  intro p e s m args below meth c s₁ B hml hv
  obtain ⟨rfl, hsz, hP, hK, hD0⟩ := hv
  have hx := B.exec
  have hb := B.bytes
  have hr := B.returns
  have hts := atoms_spec (ws := w) B.pre
  have hown : s.vm.findClass y.cls = some m.cls := findClass_of_methodNamed B.named
  have hlocks := B.notSynchronized
  subst hsz
  have hD := hD0.self (sz := s.heap.size)
  have hS : va_S (va_A ws s.heap.size) s.heap s.heap [] := va_S.rf
  have hl := lv_entry av (n := maxL) hav
  rw [lg_entry_eq]
  exact body ((p, l, e, rm, s, m, av.toArray, below, meth, c), (D, cl, va_A ws s.heap.size, tys, maxL, MQ below (va_Qi P (fun u t => xB D cl tys (va_A ws s.heap.size) (wf u) t) (va_A ws s.heap.size)) av.toArray s 0 0 (va_A ws s.heap.size)))
    ⟨rfl, rfl, rfl, rfl, rfl, hx, hb, hml, rfl, hown, hts, hK, fun q h => Or.inr h, hlocks⟩
    (by
      intro r u pc lv hp hn hd H locs ls hP hD hS hl
      exact W.zret (v := r) hx hb hr hn (fun t ht hW => ⟨⟨r, u, rfl, hp, by rw [ht]; exact hP, va_K.moved hW.alike hK, hD⟩, hS.F ht⟩) hS.2.2 hd)
    s.heap [] _ hP hD hS hl
theorem xTz_of {l : Launch} {y : MethodName} {w w' : List Cond} {rm : Room} {D : va_G} {cl : List vw_C} {tys : List (ClassId × FieldType)} {ws : va_W} {av : List Value} {own : String} {L : List (Nat × String)} {σ : Type} {wf : σ → va_W} {P : Int32 → σ → Prop} {T : String → Prop} {cc : ByteArray} {maxL : Nat}
    (hy : plainName y.cls = true) (hw : w = Cond.code y cc maxL (some .boolean) :: w') (hav : (lg_sl av).length ≤ maxL)
    (body : ∀ X : xC, xk X l rm D cl tys cc y.cls w maxL → xez X cc 1 6 wf P → xth X ws own L T → xw X 0 0 0 (lv_args 0 av) [] ws) : xTz l y w rm D cl tys ws av own L wf P T := by
  intro sz
  refine vx_ofW (cc := cc) (maxL := maxL) (ret := some .boolean) hy hw ?_
  intro p e s m args below meth c s₁ B hml hno hv
  obtain ⟨rfl, hsz, hP, hK, hD0, hE⟩ := hv
  have hx := B.exec
  have hb := B.bytes
  have hr := B.returns
  have hts := atoms_spec (ws := w) B.pre
  have hown : s.vm.findClass y.cls = some m.cls := findClass_of_methodNamed B.named
  have hlocks := B.notSynchronized
  subst hsz
  have hD := hD0.self (sz := s.heap.size)
  have hS : va_S (va_A ws s.heap.size) s.heap s.heap [] := va_S.rf
  have hl := lv_entry av (n := maxL) hav
  rw [lg_entry_eq]
  exact body ((p, l, e, rm, s, m, av.toArray, below, meth, c), (D, cl, va_A ws s.heap.size, tys, maxL, vx_MQ below (va_Qi P (fun u t => xB D cl tys (va_A ws s.heap.size) (wf u) t) (va_A ws s.heap.size)) (vx_X (fun _ : Unit => True) (fun E _ t => T E ∧ xB D cl tys (va_A ws s.heap.size) ws t) (va_A ws s.heap.size)) av.toArray s 1 6 (va_A ws s.heap.size)))
    ⟨rfl, rfl, rfl, rfl, rfl, hx, hb, hml, rfl, hown, hts, hK, fun q h => Or.inr h, hlocks⟩
    (by
      intro r u pc lv hp hn hd H locs ls hP hD hS hl
      exact vx_ret (W.zret (v := r) hx hb hr hn (fun t ht hW => ⟨⟨r, u, rfl, hp, by rw [ht]; exact hP, va_K.moved hW.alike hK, hD⟩, hS.F ht⟩) hS.2.2 hd))
    ⟨hE, fun x hx => absurd (hno x hx) id, fun E hT => ⟨fun t h1 h2 h3 => ⟨(), trivial, ⟨hT, h1, va_K.moved h3 hK, hD⟩, h2⟩, _, rfl⟩⟩
    s.heap [] _ hP hD hS hl
end
section
/-- a state in which an exception of class E comes out of a call -/
def xwx : xC → Nat → Nat → Nat → List (Nat × Value) → List Value → va_W → String → Prop
  | ((p, l, e, R, s, m, args, below, meth, c), (D, cl, A, _, nL, Q)), cells, slots, pc, lv, st, ws, E => ∀ (H : Heap) (locs : List Loc) (ls : Array Slot) (ce : Cell) (q : Addr), va_P D cl ws H → va_D A ws → va_S A s.heap H locs → lv_has ls nL lv → H[q]? = some ce → ce.vm = .none → s.vm.findClass E = some ce.cls → vx_W p l e R s m args below meth c H locs cells slots Q (F0 m pc ls st) q
def xEx : xC → String → List (Nat × String) → Prop
  | ((_, _, _, _, s, _, _, _, _, _), (_, _, A, _, _, _)), own, L => xE own L A s
theorem xE_go {own : String} {L : List (Nat × String)} {A : Nat → Prop} {s U : State} {H : Heap} {locs : List Loc} {wc : va_W} {sz : Nat} (h : xE own L A s) (hS : va_S A s.heap H locs) (hF : ∀ q, va_A wc sz q → A q) (hU : U.heap = H) (hW : s.WarmedH U.vm) : xE own L (va_A wc sz) U := by
  subst hU
  refine ⟨((h.1.kept hS.2.1).narrow hF).moved hW.alike, ((h.2.1.kept hS.2.1).narrow hF).moved hW.alike, fun q hq => ?_⟩
  obtain ⟨sa, h3⟩ := h.2.2 q hq
  exact ⟨sa, vk_R.warm hW h3⟩
/-- an exception goes out of the method: its world must be as at the beginning -/
theorem x_out {X : xC} {cc : ByteArray} {own : String} {Ts : List Cond} {nL pc : Nat} {lv : List (Nat × Value)} {st : List Value} {ws : va_W} {ow2 : String} {L : List (Nat × String)} {T : String → Prop} {l : Launch} {R : Room} {D : va_G} {cl : List vw_C} {tys : List (ClassId × FieldType)} (K : xk X l R D cl tys cc own Ts nL) (hth : xth X ws ow2 L T) {E : String} (hT : T E) : xwx X 1 6 pc lv st ws E := by
  obtain ⟨⟨p, l, e, R, s, m, args, below, meth, c⟩, ⟨D, cl, A, tys, nX, Q⟩⟩ := X
  obtain ⟨rfl, rfl, rfl, rfl, rfl, hx, hb, hml, rfl, hown, hts, hK, hA, hlk⟩ := K
  obtain ⟨-, hno, hgo⟩ := hth
  obtain ⟨h1, Qc, rfl⟩ := hgo E hT
  intro H locs ls ce q hP hD hS hl hce hcv hcc
  exact vx_out (fun x hx => absurd (hno x hx) id) hlk hce hcv hcc (fun t ht hal => h1 t (by rw [ht]; exact hP) (hS.F ht) hal) hS.2.2 (Nat.le_refl 1) (Nat.le_refl 6)
theorem xth_E {X : xC} {ws : va_W} {own : String} {L : List (Nat × String)} {T : String → Prop} (h : xth X ws own L T) : xEx X own L := by
  obtain ⟨⟨p, l, e, R, s, m, args, below, meth, c⟩, ⟨D, cl, A, tys, nX, Q⟩⟩ := X
  exact h.1
/-- throw new cls(text) -/
theorem x_throw {X : xC} {cc : ByteArray} {own : String} {Ts : List Cond} {nL pc : Nat} {lv : List (Nat × Value)} {st : List Value} {ws : va_W} {L : List (Nat × String)} {T : String → Prop} {l : Launch} {R : Room} {D : va_G} {cl : List vw_C} {tys : List (ClassId × FieldType)} (K : xk X l R D cl tys cc own Ts nL) (hth : xth X ws own L T) (hst : l.stackTraces = false) {cls text : String} {names : List String} {ik is ic : Nat} (hT : T cls) (hL : (is, text) ∈ L) (hcls : Bundle.fit cls = true) (hnames : ∀ n ∈ names, Bundle.fit n = true) (hw : ∀ w ∈ Cond.classLink own ik cls :: Cond.initialized cls :: vx_atS own ic cls names, w ∈ Ts)
    (hgood : ∀ w ∈ Cond.classLink own ik cls :: Cond.initialized cls :: vx_atS own ic cls names, vx_ot w = true)
    (d0 : decode cc pc = .ok (.new ik, 3)) (d3 : decode cc (pc + 3) = .ok (.dup, 1)) (d4 : decode cc (pc + 4) = .ok (.ldc is, 2)) (d6 : decode cc (pc + 6) = .ok (.invokespecial ic, 3)) (d9 : decode cc (pc + 9) = .ok (.athrow, 1))
    (hRframes : names.length + 3 < R.frames) (hRlocals : (st.map fun v => v.category).sum + (13 * (names.length + 1) + 43) ≤ R.locals) (hRcells : 1 ≤ R.cells) (hRslots : 6 ≤ R.slots) : xw X 0 0 pc lv st ws := by
  obtain ⟨⟨p, l, e, R, s, m, args, below, meth, c⟩, ⟨D, cl, A, tys, nX, Q⟩⟩ := X
  obtain ⟨rfl, rfl, rfl, rfl, rfl, hx, hb, hml, rfl, hown, hts, hK, hA, hlk⟩ := K
  obtain ⟨hE, hno, hgo⟩ := hth
  obtain ⟨h1, Qc, rfl⟩ := hgo cls hT
  obtain ⟨sa, hstr⟩ := hE.2.2 _ hL
  intro H locs ls hP hD hS hl
  refine vx_throwS hx hb hst hown hcls hnames (hts _ (hw _ List.mem_cons_self)) (hts _ (hw _ (List.mem_cons_of_mem _ List.mem_cons_self))) hstr (fun w h => hts w (hw w (List.mem_cons_of_mem _ (List.mem_cons_of_mem _ h)))) hgood hE.1 hE.2.1 hS (by rw [hl.1, hml]) d0 d3 d4 d6 d9 (fun x hx => absurd (hno x hx) id) hRframes hRlocals (by omega) (by omega) hlk (fun t hal hsz hke => h1 t (hP.kept (fun k q hq => hke q.1 (vx_lt hP hq))) ⟨Nat.le_trans hS.1 hsz, fun q h1 h2 => ?_⟩ hal) hS.2.2 (Nat.le_refl 1) (Nat.le_refl 6)
  rw [hke q (Nat.lt_of_lt_of_le h1 hS.1)]
  exact hS.2.1 q h1 h2
section XCALL
theorem x_callSi {X : xC} {cc : ByteArray} {own : String} {Ts : List Cond} {nL cells slots pc : Nat} {lv : List (Nat × Value)} {st : List Value} {ws : va_W} {l : Launch} {R : Room} {D : va_G} {cl : List vw_C} {tys : List (ClassId × FieldType)} (K : xk X l R D cl tys cc own Ts nL) {y : MethodName} {w w' : List Cond} {rm : Room} {bytes : ByteArray} {maxL n idx : Nat} {av st0 : List Value} {wc : va_W} {σ : Type} {wf : σ → va_W} {P : Int32 → σ → Prop} (hM : xMi l y w rm D cl tys wc av wf P) (hrc : rm.cells = 0) (hrs : rm.slots = 0) (hg : GoodIn Ts (va_wsS own idx y w)) (hw : w = Cond.code y bytes maxL (some .int) :: w') (hd : y.cls ≠ "java/lang/invoke/MethodHandle" ∧ y.cls ≠ "java/lang/invoke/VarHandle" ∧ (parseMethodDescriptor y.desc).map (fun d => d.parameters.length) = some n) (hroom : rm.frames + 1 ≤ R.frames ∧ 8 + (maxL + 11) + rm.locals ≤ R.locals) (hn : av.length = n) (hst : st0 = av.reverse ++ st) (hcat : (st.map fun v => v.category).sum ≤ 8)
    (isC isR : List Nat) {wr : va_W} (hC : isC.map (fun i => ws[i]?) = wc.map some) (hRr : isR.map (fun i => ws[i]?) = wr.map some) (hnC : va_nd isC = true) (hnd : va_nd isR = true) (hdis : ∀ i ∈ isR, i ∉ isC) (d : decode cc pc = .ok (.invokestatic idx, 3)) (hf : cells ≤ R.cells ∧ slots ≤ R.slots)
    (kk : ∀ (r : Int32) (u : σ), P r u → xw X cells slots (pc + 3) lv (.int r :: st) (wr ++ wf u)) : xw X cells slots pc lv st0 ws := by
  obtain ⟨⟨p, l, e, R, s, m, args, below, meth, c⟩, ⟨D, cl, A, tys, nX, Q⟩⟩ := X
  obtain ⟨rfl, rfl, rfl, rfl, rfl, hx, hb, hml, rfl, hown, hts, hK, hA, hlk⟩ := K
  intro H locs ls hP hD hS hl
  have hPc := hP.sub (ws' := wc) isC (xfm hC)
  have hDc := hD.sub (ws' := wc) isC hnC hC
  have hFc := va_free (wc := wc) hD hS hA isC hC
  refine va_calli (va_runS (As := av) (rest := st) ⟨hx, hb, hml, hown, hts⟩ (hM H.size) (va_cwS n hts hg hw hrc hrs hd hroom) ⟨xPre_blind, fun U hU hW => ⟨rfl, by rw [hU], by rw [hU]; exact hPc, va_K.moved hW.alike hK, hDc.weaken (fun _ _ _ _ => trivial)⟩⟩ rfl hn hl.1 hst (lv_room hcat) d hf) hS (fun q _ h => hFc q h) hFc (fun r u t H1 locs ht hvm hw hB hz1 hk1 hS => ?_)
  obtain ⟨hP1, hK1, hD1⟩ := hB
  rw [ht] at hP1
  obtain ⟨hP, hD⟩ := va_join (wr := wr) (w1 := wf u) hP hD isC isR hC hRr hnd hdis hk1 hFc hP1 hD1
  exact kk r u hw H1 locs ls hP hD hS hl
theorem x_tcallSi {X : xC} {cc : ByteArray} {own : String} {Ts : List Cond} {nL cells slots pc : Nat} {lv : List (Nat × Value)} {st : List Value} {ws : va_W} {l : Launch} {R : Room} {D : va_G} {cl : List vw_C} {tys : List (ClassId × FieldType)} (K : xk X l R D cl tys cc own Ts nL) {y : MethodName} {w w' : List Cond} {rm : Room} {bytes : ByteArray} {maxL n idx : Nat} {av st0 : List Value} {wc : va_W} {σ : Type} {wf : σ → va_W} {P : Int32 → σ → Prop} {ow2 : String} {L L2 : List (Nat × String)} {T : String → Prop} (hE : xEx X ow2 L2) (hL : ∀ q ∈ L, q ∈ L2) (hM : xTi l y w rm D cl tys wc av ow2 L wf P T) (hrc : rm.cells = 1) (hrs : rm.slots = 6) (hg : GoodIn Ts (va_wsS own idx y w)) (hw : w = Cond.code y bytes maxL (some .int) :: w') (hd : y.cls ≠ "java/lang/invoke/MethodHandle" ∧ y.cls ≠ "java/lang/invoke/VarHandle" ∧ (parseMethodDescriptor y.desc).map (fun d => d.parameters.length) = some n) (hroom : rm.frames + 1 ≤ R.frames ∧ 8 + (maxL + 11) + rm.locals ≤ R.locals) (hn : av.length = n) (hst : st0 = av.reverse ++ st) (hcat : (st.map fun v => v.category).sum ≤ 8)
    (isC isR : List Nat) {wr : va_W} (hC : isC.map (fun i => ws[i]?) = wc.map some) (hRr : isR.map (fun i => ws[i]?) = wr.map some) (hnC : va_nd isC = true) (hnd : va_nd isR = true) (hdis : ∀ i ∈ isR, i ∉ isC) (d : decode cc pc = .ok (.invokestatic idx, 3)) (hf : cells + 1 ≤ R.cells ∧ slots + 6 ≤ R.slots)
    (kx : ∀ E, T E → xwx X (cells + 1) (slots + 6) pc lv st (wr ++ wc) E) (kk : ∀ (r : Int32) (u : σ), P r u → xw X (cells + 1) (slots + 6) (pc + 3) lv (.int r :: st) (wr ++ wf u)) : xw X cells slots pc lv st0 ws := by
  obtain ⟨⟨p, l, e, R, s, m, args, below, meth, c⟩, ⟨D, cl, A, tys, nX, Q⟩⟩ := X
  obtain ⟨rfl, rfl, rfl, rfl, rfl, hx, hb, hml, rfl, hown, hts, hK, hA, hlk⟩ := K
  intro H locs ls hP hD hS hl
  have hE : xE ow2 L A s := ⟨hE.1, hE.2.1, fun q hq => hE.2.2 q (hL q hq)⟩
  have hPc := hP.sub (ws' := wc) isC (xfm hC)
  have hDc := hD.sub (ws' := wc) isC hnC hC
  have hFc := va_free (wc := wc) hD hS hA isC hC
  refine vx_calli (vx_runS (As := av) (rest := st) ⟨hx, hb, hml, hown, hts⟩ (hM H.size) (va_cwS n hts hg hw hrc hrs hd hroom) ⟨xPreT_blind, fun U hU hW => ⟨rfl, by rw [hU], by rw [hU]; exact hPc, va_K.moved hW.alike hK, hDc.weaken (fun _ _ _ _ => trivial), xE_go hE hS hFc hU hW⟩⟩ rfl hn hl.1 hst (lv_room hcat) d hf) hS (fun q _ h => hFc q h) hFc (fun q _ h => hFc q h) (fun E ce q9 u t H1 locs ht hvm hw hB hz1 hk1 hS hce hcv hcc => ?_) (fun r u t H1 locs ht hvm hw hB hz1 hk1 hS => ?_)
  · obtain ⟨hT, hP1, hK1, hD1⟩ := hB
    rw [ht] at hP1
    obtain ⟨hP, hD⟩ := va_join (wr := wr) (w1 := wc) hP hD isC isR hC hRr hnd hdis hk1 hFc hP1 hD1
    exact kx E hT H1 locs ls ce q9 hP hD hS hl hce hcv hcc
  · obtain ⟨hP1, hK1, hD1⟩ := hB
    rw [ht] at hP1
    obtain ⟨hP, hD⟩ := va_join (wr := wr) (w1 := wf u) hP hD isC isR hC hRr hnd hdis hk1 hFc hP1 hD1
    exact kk r u hw H1 locs ls hP hD hS hl
theorem x_callSl {X : xC} {cc : ByteArray} {own : String} {Ts : List Cond} {nL cells slots pc : Nat} {lv : List (Nat × Value)} {st : List Value} {ws : va_W} {l : Launch} {R : Room} {D : va_G} {cl : List vw_C} {tys : List (ClassId × FieldType)} (K : xk X l R D cl tys cc own Ts nL) {y : MethodName} {w w' : List Cond} {rm : Room} {bytes : ByteArray} {maxL n idx : Nat} {av st0 : List Value} {wc : va_W} {σ : Type} {wf : σ → va_W} {P : Int64 → σ → Prop} (hM : xMl l y w rm D cl tys wc av wf P) (hrc : rm.cells = 0) (hrs : rm.slots = 0) (hg : GoodIn Ts (va_wsS own idx y w)) (hw : w = Cond.code y bytes maxL (some .long) :: w') (hd : y.cls ≠ "java/lang/invoke/MethodHandle" ∧ y.cls ≠ "java/lang/invoke/VarHandle" ∧ (parseMethodDescriptor y.desc).map (fun d => d.parameters.length) = some n) (hroom : rm.frames + 1 ≤ R.frames ∧ 8 + (maxL + 11) + rm.locals ≤ R.locals) (hn : av.length = n) (hst : st0 = av.reverse ++ st) (hcat : (st.map fun v => v.category).sum ≤ 8)
    (isC isR : List Nat) {wr : va_W} (hC : isC.map (fun i => ws[i]?) = wc.map some) (hRr : isR.map (fun i => ws[i]?) = wr.map some) (hnC : va_nd isC = true) (hnd : va_nd isR = true) (hdis : ∀ i ∈ isR, i ∉ isC) (d : decode cc pc = .ok (.invokestatic idx, 3)) (hf : cells ≤ R.cells ∧ slots ≤ R.slots)
    (kk : ∀ (r : Int64) (u : σ), P r u → xw X cells slots (pc + 3) lv (.long r :: st) (wr ++ wf u)) : xw X cells slots pc lv st0 ws := by
  obtain ⟨⟨p, l, e, R, s, m, args, below, meth, c⟩, ⟨D, cl, A, tys, nX, Q⟩⟩ := X
  obtain ⟨rfl, rfl, rfl, rfl, rfl, hx, hb, hml, rfl, hown, hts, hK, hA, hlk⟩ := K
  intro H locs ls hP hD hS hl
  have hPc := hP.sub (ws' := wc) isC (xfm hC)
  have hDc := hD.sub (ws' := wc) isC hnC hC
  have hFc := va_free (wc := wc) hD hS hA isC hC
  refine va_calll (va_runS (As := av) (rest := st) ⟨hx, hb, hml, hown, hts⟩ (hM H.size) (va_cwS n hts hg hw hrc hrs hd hroom) ⟨xPre_blind, fun U hU hW => ⟨rfl, by rw [hU], by rw [hU]; exact hPc, va_K.moved hW.alike hK, hDc.weaken (fun _ _ _ _ => trivial)⟩⟩ rfl hn hl.1 hst (lv_room hcat) d hf) hS (fun q _ h => hFc q h) hFc (fun r u t H1 locs ht hvm hw hB hz1 hk1 hS => ?_)
  obtain ⟨hP1, hK1, hD1⟩ := hB
  rw [ht] at hP1
  obtain ⟨hP, hD⟩ := va_join (wr := wr) (w1 := wf u) hP hD isC isR hC hRr hnd hdis hk1 hFc hP1 hD1
  exact kk r u hw H1 locs ls hP hD hS hl
theorem x_tcallSl {X : xC} {cc : ByteArray} {own : String} {Ts : List Cond} {nL cells slots pc : Nat} {lv : List (Nat × Value)} {st : List Value} {ws : va_W} {l : Launch} {R : Room} {D : va_G} {cl : List vw_C} {tys : List (ClassId × FieldType)} (K : xk X l R D cl tys cc own Ts nL) {y : MethodName} {w w' : List Cond} {rm : Room} {bytes : ByteArray} {maxL n idx : Nat} {av st0 : List Value} {wc : va_W} {σ : Type} {wf : σ → va_W} {P : Int64 → σ → Prop} {ow2 : String} {L L2 : List (Nat × String)} {T : String → Prop} (hE : xEx X ow2 L2) (hL : ∀ q ∈ L, q ∈ L2) (hM : xTl l y w rm D cl tys wc av ow2 L wf P T) (hrc : rm.cells = 1) (hrs : rm.slots = 6) (hg : GoodIn Ts (va_wsS own idx y w)) (hw : w = Cond.code y bytes maxL (some .long) :: w') (hd : y.cls ≠ "java/lang/invoke/MethodHandle" ∧ y.cls ≠ "java/lang/invoke/VarHandle" ∧ (parseMethodDescriptor y.desc).map (fun d => d.parameters.length) = some n) (hroom : rm.frames + 1 ≤ R.frames ∧ 8 + (maxL + 11) + rm.locals ≤ R.locals) (hn : av.length = n) (hst : st0 = av.reverse ++ st) (hcat : (st.map fun v => v.category).sum ≤ 8)
    (isC isR : List Nat) {wr : va_W} (hC : isC.map (fun i => ws[i]?) = wc.map some) (hRr : isR.map (fun i => ws[i]?) = wr.map some) (hnC : va_nd isC = true) (hnd : va_nd isR = true) (hdis : ∀ i ∈ isR, i ∉ isC) (d : decode cc pc = .ok (.invokestatic idx, 3)) (hf : cells + 1 ≤ R.cells ∧ slots + 6 ≤ R.slots)
    (kx : ∀ E, T E → xwx X (cells + 1) (slots + 6) pc lv st (wr ++ wc) E) (kk : ∀ (r : Int64) (u : σ), P r u → xw X (cells + 1) (slots + 6) (pc + 3) lv (.long r :: st) (wr ++ wf u)) : xw X cells slots pc lv st0 ws := by
  obtain ⟨⟨p, l, e, R, s, m, args, below, meth, c⟩, ⟨D, cl, A, tys, nX, Q⟩⟩ := X
  obtain ⟨rfl, rfl, rfl, rfl, rfl, hx, hb, hml, rfl, hown, hts, hK, hA, hlk⟩ := K
  intro H locs ls hP hD hS hl
  have hE : xE ow2 L A s := ⟨hE.1, hE.2.1, fun q hq => hE.2.2 q (hL q hq)⟩
  have hPc := hP.sub (ws' := wc) isC (xfm hC)
  have hDc := hD.sub (ws' := wc) isC hnC hC
  have hFc := va_free (wc := wc) hD hS hA isC hC
  refine vx_calll (vx_runS (As := av) (rest := st) ⟨hx, hb, hml, hown, hts⟩ (hM H.size) (va_cwS n hts hg hw hrc hrs hd hroom) ⟨xPreT_blind, fun U hU hW => ⟨rfl, by rw [hU], by rw [hU]; exact hPc, va_K.moved hW.alike hK, hDc.weaken (fun _ _ _ _ => trivial), xE_go hE hS hFc hU hW⟩⟩ rfl hn hl.1 hst (lv_room hcat) d hf) hS (fun q _ h => hFc q h) hFc (fun q _ h => hFc q h) (fun E ce q9 u t H1 locs ht hvm hw hB hz1 hk1 hS hce hcv hcc => ?_) (fun r u t H1 locs ht hvm hw hB hz1 hk1 hS => ?_)
  · obtain ⟨hT, hP1, hK1, hD1⟩ := hB
    rw [ht] at hP1
    obtain ⟨hP, hD⟩ := va_join (wr := wr) (w1 := wc) hP hD isC isR hC hRr hnd hdis hk1 hFc hP1 hD1
    exact kx E hT H1 locs ls ce q9 hP hD hS hl hce hcv hcc
  · obtain ⟨hP1, hK1, hD1⟩ := hB
    rw [ht] at hP1
    obtain ⟨hP, hD⟩ := va_join (wr := wr) (w1 := wf u) hP hD isC isR hC hRr hnd hdis hk1 hFc hP1 hD1
    exact kk r u hw H1 locs ls hP hD hS hl
theorem x_callSv {X : xC} {cc : ByteArray} {own : String} {Ts : List Cond} {nL cells slots pc : Nat} {lv : List (Nat × Value)} {st : List Value} {ws : va_W} {l : Launch} {R : Room} {D : va_G} {cl : List vw_C} {tys : List (ClassId × FieldType)} (K : xk X l R D cl tys cc own Ts nL) {y : MethodName} {w w' : List Cond} {rm : Room} {bytes : ByteArray} {maxL n idx : Nat} {av st0 : List Value} {wc : va_W} {σ : Type} {wf : σ → va_W} {P : σ → Prop} (hM : xMv l y w rm D cl tys wc av wf P) (hrc : rm.cells = 0) (hrs : rm.slots = 0) (hg : GoodIn Ts (va_wsS own idx y w)) (hw : w = Cond.code y bytes maxL (none) :: w') (hd : y.cls ≠ "java/lang/invoke/MethodHandle" ∧ y.cls ≠ "java/lang/invoke/VarHandle" ∧ (parseMethodDescriptor y.desc).map (fun d => d.parameters.length) = some n) (hroom : rm.frames + 1 ≤ R.frames ∧ 8 + (maxL + 11) + rm.locals ≤ R.locals) (hn : av.length = n) (hst : st0 = av.reverse ++ st) (hcat : (st.map fun v => v.category).sum ≤ 8)
    (isC isR : List Nat) {wr : va_W} (hC : isC.map (fun i => ws[i]?) = wc.map some) (hRr : isR.map (fun i => ws[i]?) = wr.map some) (hnC : va_nd isC = true) (hnd : va_nd isR = true) (hdis : ∀ i ∈ isR, i ∉ isC) (d : decode cc pc = .ok (.invokestatic idx, 3)) (hf : cells ≤ R.cells ∧ slots ≤ R.slots)
    (kk : ∀ (u : σ), P u → xw X cells slots (pc + 3) lv st (wr ++ wf u)) : xw X cells slots pc lv st0 ws := by
  obtain ⟨⟨p, l, e, R, s, m, args, below, meth, c⟩, ⟨D, cl, A, tys, nX, Q⟩⟩ := X
  obtain ⟨rfl, rfl, rfl, rfl, rfl, hx, hb, hml, rfl, hown, hts, hK, hA, hlk⟩ := K
  intro H locs ls hP hD hS hl
  have hPc := hP.sub (ws' := wc) isC (xfm hC)
  have hDc := hD.sub (ws' := wc) isC hnC hC
  have hFc := va_free (wc := wc) hD hS hA isC hC
  refine va_callv (va_runS (As := av) (rest := st) ⟨hx, hb, hml, hown, hts⟩ (hM H.size) (va_cwS n hts hg hw hrc hrs hd hroom) ⟨xPre_blind, fun U hU hW => ⟨rfl, by rw [hU], by rw [hU]; exact hPc, va_K.moved hW.alike hK, hDc.weaken (fun _ _ _ _ => trivial)⟩⟩ rfl hn hl.1 hst (lv_room hcat) d hf) hS (fun q _ h => hFc q h) hFc (fun u t H1 locs ht hvm hw hB hz1 hk1 hS => ?_)
  obtain ⟨hP1, hK1, hD1⟩ := hB
  rw [ht] at hP1
  obtain ⟨hP, hD⟩ := va_join (wr := wr) (w1 := wf u) hP hD isC isR hC hRr hnd hdis hk1 hFc hP1 hD1
  exact kk u hw H1 locs ls hP hD hS hl
theorem x_tcallSv {X : xC} {cc : ByteArray} {own : String} {Ts : List Cond} {nL cells slots pc : Nat} {lv : List (Nat × Value)} {st : List Value} {ws : va_W} {l : Launch} {R : Room} {D : va_G} {cl : List vw_C} {tys : List (ClassId × FieldType)} (K : xk X l R D cl tys cc own Ts nL) {y : MethodName} {w w' : List Cond} {rm : Room} {bytes : ByteArray} {maxL n idx : Nat} {av st0 : List Value} {wc : va_W} {σ : Type} {wf : σ → va_W} {P : σ → Prop} {ow2 : String} {L L2 : List (Nat × String)} {T : String → Prop} (hE : xEx X ow2 L2) (hL : ∀ q ∈ L, q ∈ L2) (hM : xTv l y w rm D cl tys wc av ow2 L wf P T) (hrc : rm.cells = 1) (hrs : rm.slots = 6) (hg : GoodIn Ts (va_wsS own idx y w)) (hw : w = Cond.code y bytes maxL (none) :: w') (hd : y.cls ≠ "java/lang/invoke/MethodHandle" ∧ y.cls ≠ "java/lang/invoke/VarHandle" ∧ (parseMethodDescriptor y.desc).map (fun d => d.parameters.length) = some n) (hroom : rm.frames + 1 ≤ R.frames ∧ 8 + (maxL + 11) + rm.locals ≤ R.locals) (hn : av.length = n) (hst : st0 = av.reverse ++ st) (hcat : (st.map fun v => v.category).sum ≤ 8)
    (isC isR : List Nat) {wr : va_W} (hC : isC.map (fun i => ws[i]?) = wc.map some) (hRr : isR.map (fun i => ws[i]?) = wr.map some) (hnC : va_nd isC = true) (hnd : va_nd isR = true) (hdis : ∀ i ∈ isR, i ∉ isC) (d : decode cc pc = .ok (.invokestatic idx, 3)) (hf : cells + 1 ≤ R.cells ∧ slots + 6 ≤ R.slots)
    (kx : ∀ E, T E → xwx X (cells + 1) (slots + 6) pc lv st (wr ++ wc) E) (kk : ∀ (u : σ), P u → xw X (cells + 1) (slots + 6) (pc + 3) lv st (wr ++ wf u)) : xw X cells slots pc lv st0 ws := by
  obtain ⟨⟨p, l, e, R, s, m, args, below, meth, c⟩, ⟨D, cl, A, tys, nX, Q⟩⟩ := X
  obtain ⟨rfl, rfl, rfl, rfl, rfl, hx, hb, hml, rfl, hown, hts, hK, hA, hlk⟩ := K
  intro H locs ls hP hD hS hl
  have hE : xE ow2 L A s := ⟨hE.1, hE.2.1, fun q hq => hE.2.2 q (hL q hq)⟩
  have hPc := hP.sub (ws' := wc) isC (xfm hC)
  have hDc := hD.sub (ws' := wc) isC hnC hC
  have hFc := va_free (wc := wc) hD hS hA isC hC
  refine vx_callv (vx_runS (As := av) (rest := st) ⟨hx, hb, hml, hown, hts⟩ (hM H.size) (va_cwS n hts hg hw hrc hrs hd hroom) ⟨xPreT_blind, fun U hU hW => ⟨rfl, by rw [hU], by rw [hU]; exact hPc, va_K.moved hW.alike hK, hDc.weaken (fun _ _ _ _ => trivial), xE_go hE hS hFc hU hW⟩⟩ rfl hn hl.1 hst (lv_room hcat) d hf) hS (fun q _ h => hFc q h) hFc (fun q _ h => hFc q h) (fun E ce q9 u t H1 locs ht hvm hw hB hz1 hk1 hS hce hcv hcc => ?_) (fun u t H1 locs ht hvm hw hB hz1 hk1 hS => ?_)
  · obtain ⟨hT, hP1, hK1, hD1⟩ := hB
    rw [ht] at hP1
    obtain ⟨hP, hD⟩ := va_join (wr := wr) (w1 := wc) hP hD isC isR hC hRr hnd hdis hk1 hFc hP1 hD1
    exact kx E hT H1 locs ls ce q9 hP hD hS hl hce hcv hcc
  · obtain ⟨hP1, hK1, hD1⟩ := hB
    rw [ht] at hP1
    obtain ⟨hP, hD⟩ := va_join (wr := wr) (w1 := wf u) hP hD isC isR hC hRr hnd hdis hk1 hFc hP1 hD1
    exact kk u hw H1 locs ls hP hD hS hl
theorem x_callSz {X : xC} {cc : ByteArray} {own : String} {Ts : List Cond} {nL cells slots pc : Nat} {lv : List (Nat × Value)} {st : List Value} {ws : va_W} {l : Launch} {R : Room} {D : va_G} {cl : List vw_C} {tys : List (ClassId × FieldType)} (K : xk X l R D cl tys cc own Ts nL) {y : MethodName} {w w' : List Cond} {rm : Room} {bytes : ByteArray} {maxL n idx : Nat} {av st0 : List Value} {wc : va_W} {σ : Type} {wf : σ → va_W} {P : Int32 → σ → Prop} (hM : xMz l y w rm D cl tys wc av wf P) (hrc : rm.cells = 0) (hrs : rm.slots = 0) (hg : GoodIn Ts (va_wsS own idx y w)) (hw : w = Cond.code y bytes maxL (some .boolean) :: w') (hd : y.cls ≠ "java/lang/invoke/MethodHandle" ∧ y.cls ≠ "java/lang/invoke/VarHandle" ∧ (parseMethodDescriptor y.desc).map (fun d => d.parameters.length) = some n) (hroom : rm.frames + 1 ≤ R.frames ∧ 8 + (maxL + 11) + rm.locals ≤ R.locals) (hn : av.length = n) (hst : st0 = av.reverse ++ st) (hcat : (st.map fun v => v.category).sum ≤ 8)
    (isC isR : List Nat) {wr : va_W} (hC : isC.map (fun i => ws[i]?) = wc.map some) (hRr : isR.map (fun i => ws[i]?) = wr.map some) (hnC : va_nd isC = true) (hnd : va_nd isR = true) (hdis : ∀ i ∈ isR, i ∉ isC) (d : decode cc pc = .ok (.invokestatic idx, 3)) (hf : cells ≤ R.cells ∧ slots ≤ R.slots)
    (kk : ∀ (r : Int32) (u : σ), P r u → xw X cells slots (pc + 3) lv (.int r :: st) (wr ++ wf u)) : xw X cells slots pc lv st0 ws := by
  obtain ⟨⟨p, l, e, R, s, m, args, below, meth, c⟩, ⟨D, cl, A, tys, nX, Q⟩⟩ := X
  obtain ⟨rfl, rfl, rfl, rfl, rfl, hx, hb, hml, rfl, hown, hts, hK, hA, hlk⟩ := K
  intro H locs ls hP hD hS hl
  have hPc := hP.sub (ws' := wc) isC (xfm hC)
  have hDc := hD.sub (ws' := wc) isC hnC hC
  have hFc := va_free (wc := wc) hD hS hA isC hC
  refine va_calli (va_runS (As := av) (rest := st) ⟨hx, hb, hml, hown, hts⟩ (hM H.size) (va_cwS n hts hg hw hrc hrs hd hroom) ⟨xPre_blind, fun U hU hW => ⟨rfl, by rw [hU], by rw [hU]; exact hPc, va_K.moved hW.alike hK, hDc.weaken (fun _ _ _ _ => trivial)⟩⟩ rfl hn hl.1 hst (lv_room hcat) d hf) hS (fun q _ h => hFc q h) hFc (fun r u t H1 locs ht hvm hw hB hz1 hk1 hS => ?_)
  obtain ⟨hP1, hK1, hD1⟩ := hB
  rw [ht] at hP1
  obtain ⟨hP, hD⟩ := va_join (wr := wr) (w1 := wf u) hP hD isC isR hC hRr hnd hdis hk1 hFc hP1 hD1
  exact kk r u hw H1 locs ls hP hD hS hl
theorem x_tcallSz {X : xC} {cc : ByteArray} {own : String} {Ts : List Cond} {nL cells slots pc : Nat} {lv : List (Nat × Value)} {st : List Value} {ws : va_W} {l : Launch} {R : Room} {D : va_G} {cl : List vw_C} {tys : List (ClassId × FieldType)} (K : xk X l R D cl tys cc own Ts nL) {y : MethodName} {w w' : List Cond} {rm : Room} {bytes : ByteArray} {maxL n idx : Nat} {av st0 : List Value} {wc : va_W} {σ : Type} {wf : σ → va_W} {P : Int32 → σ → Prop} {ow2 : String} {L L2 : List (Nat × String)} {T : String → Prop} (hE : xEx X ow2 L2) (hL : ∀ q ∈ L, q ∈ L2) (hM : xTz l y w rm D cl tys wc av ow2 L wf P T) (hrc : rm.cells = 1) (hrs : rm.slots = 6) (hg : GoodIn Ts (va_wsS own idx y w)) (hw : w = Cond.code y bytes maxL (some .boolean) :: w') (hd : y.cls ≠ "java/lang/invoke/MethodHandle" ∧ y.cls ≠ "java/lang/invoke/VarHandle" ∧ (parseMethodDescriptor y.desc).map (fun d => d.parameters.length) = some n) (hroom : rm.frames + 1 ≤ R.frames ∧ 8 + (maxL + 11) + rm.locals ≤ R.locals) (hn : av.length = n) (hst : st0 = av.reverse ++ st) (hcat : (st.map fun v => v.category).sum ≤ 8)
    (isC isR : List Nat) {wr : va_W} (hC : isC.map (fun i => ws[i]?) = wc.map some) (hRr : isR.map (fun i => ws[i]?) = wr.map some) (hnC : va_nd isC = true) (hnd : va_nd isR = true) (hdis : ∀ i ∈ isR, i ∉ isC) (d : decode cc pc = .ok (.invokestatic idx, 3)) (hf : cells + 1 ≤ R.cells ∧ slots + 6 ≤ R.slots)
    (kx : ∀ E, T E → xwx X (cells + 1) (slots + 6) pc lv st (wr ++ wc) E) (kk : ∀ (r : Int32) (u : σ), P r u → xw X (cells + 1) (slots + 6) (pc + 3) lv (.int r :: st) (wr ++ wf u)) : xw X cells slots pc lv st0 ws := by
  obtain ⟨⟨p, l, e, R, s, m, args, below, meth, c⟩, ⟨D, cl, A, tys, nX, Q⟩⟩ := X
  obtain ⟨rfl, rfl, rfl, rfl, rfl, hx, hb, hml, rfl, hown, hts, hK, hA, hlk⟩ := K
  intro H locs ls hP hD hS hl
  have hE : xE ow2 L A s := ⟨hE.1, hE.2.1, fun q hq => hE.2.2 q (hL q hq)⟩
  have hPc := hP.sub (ws' := wc) isC (xfm hC)
  have hDc := hD.sub (ws' := wc) isC hnC hC
  have hFc := va_free (wc := wc) hD hS hA isC hC
  refine vx_calli (vx_runS (As := av) (rest := st) ⟨hx, hb, hml, hown, hts⟩ (hM H.size) (va_cwS n hts hg hw hrc hrs hd hroom) ⟨xPreT_blind, fun U hU hW => ⟨rfl, by rw [hU], by rw [hU]; exact hPc, va_K.moved hW.alike hK, hDc.weaken (fun _ _ _ _ => trivial), xE_go hE hS hFc hU hW⟩⟩ rfl hn hl.1 hst (lv_room hcat) d hf) hS (fun q _ h => hFc q h) hFc (fun q _ h => hFc q h) (fun E ce q9 u t H1 locs ht hvm hw hB hz1 hk1 hS hce hcv hcc => ?_) (fun r u t H1 locs ht hvm hw hB hz1 hk1 hS => ?_)
  · obtain ⟨hT, hP1, hK1, hD1⟩ := hB
    rw [ht] at hP1
    obtain ⟨hP, hD⟩ := va_join (wr := wr) (w1 := wc) hP hD isC isR hC hRr hnd hdis hk1 hFc hP1 hD1
    exact kx E hT H1 locs ls ce q9 hP hD hS hl hce hcv hcc
  · obtain ⟨hP1, hK1, hD1⟩ := hB
    rw [ht] at hP1
    obtain ⟨hP, hD⟩ := va_join (wr := wr) (w1 := wf u) hP hD isC isR hC hRr hnd hdis hk1 hFc hP1 hD1
    exact kk r u hw H1 locs ls hP hD hS hl
theorem x_callVi {X : xC} {cc : ByteArray} {own : String} {Ts : List Cond} {nL cells slots pc : Nat} {lv : List (Nat × Value)} {st : List Value} {ws : va_W} {l : Launch} {R : Room} {D : va_G} {cl : List vw_C} {tys : List (ClassId × FieldType)} (K : xk X l R D cl tys cc own Ts nL) {y : MethodName} {w w' : List Cond} {rm : Room} {bytes : ByteArray} {maxL n idx : Nat} {b ci q0 : Nat} {fs : List Value} {q : vw_C} {av st0 : List Value} {wc : va_W} {σ : Type} {wf : σ → va_W} {P : Int32 → σ → Prop} (hM : xMi l y w rm D cl tys wc (.ref b :: av) wf P) (hrc : rm.cells = 0) (hrs : rm.slots = 0) (hg : GoodIn Ts (wsV own idx q.1 y w)) (hw : w = Cond.code y bytes maxL (some .int) :: w') (hd : y.cls = q.1 ∧ y.cls ≠ "java/lang/invoke/MethodHandle" ∧ y.cls ≠ "java/lang/invoke/VarHandle" ∧ (parseMethodDescriptor y.desc).map (fun d => d.parameters.length) = some n) (hroom : rm.frames + 1 ≤ R.frames ∧ 8 + (maxL + 11) + rm.locals ≤ R.locals) (hn : av.length = n) (hst : st0 = av.reverse ++ .ref b :: st) (hq : cl[ci]? = some q) (hrec : wc[q0]? = some (b, .inr (ci, fs))) (hcat : (st.map fun v => v.category).sum ≤ 8)
    (isC isR : List Nat) {wr : va_W} (hC : isC.map (fun i => ws[i]?) = wc.map some) (hRr : isR.map (fun i => ws[i]?) = wr.map some) (hnC : va_nd isC = true) (hnd : va_nd isR = true) (hdis : ∀ i ∈ isR, i ∉ isC) (d : decode cc pc = .ok (.invokevirtual idx, 3)) (hf : cells ≤ R.cells ∧ slots ≤ R.slots)
    (kk : ∀ (r : Int32) (u : σ), P r u → xw X cells slots (pc + 3) lv (.int r :: st) (wr ++ wf u)) : xw X cells slots pc lv st0 ws := by
  obtain ⟨⟨p, l, e, R, s, m, args, below, meth, c⟩, ⟨D, cl, A, tys, nX, Q⟩⟩ := X
  obtain ⟨rfl, rfl, rfl, rfl, rfl, hx, hb, hml, rfl, hown, hts, hK, hA, hlk⟩ := K
  intro H locs ls hP hD hS hl
  have hPc := hP.sub (ws' := wc) isC (xfm hC)
  have hDc := hD.sub (ws' := wc) isC hnC hC
  have hFc := va_free (wc := wc) hD hS hA isC hC
  refine va_calli (va_runV (As := av) (rest := st) ⟨hx, hb, hml, hown, hts⟩ (hM H.size) (cwV n hts hg hw hrc hrs hd hroom) ⟨xPre_blind, va_recv hK hPc hq hrec, fun U hU hW => ⟨rfl, by rw [hU], by rw [hU]; exact hPc, va_K.moved hW.alike hK, hDc.weaken (fun _ _ _ _ => trivial)⟩⟩ rfl hn hl.1 hst (lv_room hcat) d hf) hS (fun q _ h => hFc q h) hFc (fun r u t H1 locs ht hvm hw hB hz1 hk1 hS => ?_)
  obtain ⟨hP1, hK1, hD1⟩ := hB
  rw [ht] at hP1
  obtain ⟨hP, hD⟩ := va_join (wr := wr) (w1 := wf u) hP hD isC isR hC hRr hnd hdis hk1 hFc hP1 hD1
  exact kk r u hw H1 locs ls hP hD hS hl
theorem x_tcallVi {X : xC} {cc : ByteArray} {own : String} {Ts : List Cond} {nL cells slots pc : Nat} {lv : List (Nat × Value)} {st : List Value} {ws : va_W} {l : Launch} {R : Room} {D : va_G} {cl : List vw_C} {tys : List (ClassId × FieldType)} (K : xk X l R D cl tys cc own Ts nL) {y : MethodName} {w w' : List Cond} {rm : Room} {bytes : ByteArray} {maxL n idx : Nat} {b ci q0 : Nat} {fs : List Value} {q : vw_C} {av st0 : List Value} {wc : va_W} {σ : Type} {wf : σ → va_W} {P : Int32 → σ → Prop} {ow2 : String} {L L2 : List (Nat × String)} {T : String → Prop} (hE : xEx X ow2 L2) (hL : ∀ q ∈ L, q ∈ L2) (hM : xTi l y w rm D cl tys wc (.ref b :: av) ow2 L wf P T) (hrc : rm.cells = 1) (hrs : rm.slots = 6) (hg : GoodIn Ts (wsV own idx q.1 y w)) (hw : w = Cond.code y bytes maxL (some .int) :: w') (hd : y.cls = q.1 ∧ y.cls ≠ "java/lang/invoke/MethodHandle" ∧ y.cls ≠ "java/lang/invoke/VarHandle" ∧ (parseMethodDescriptor y.desc).map (fun d => d.parameters.length) = some n) (hroom : rm.frames + 1 ≤ R.frames ∧ 8 + (maxL + 11) + rm.locals ≤ R.locals) (hn : av.length = n) (hst : st0 = av.reverse ++ .ref b :: st) (hq : cl[ci]? = some q) (hrec : wc[q0]? = some (b, .inr (ci, fs))) (hcat : (st.map fun v => v.category).sum ≤ 8)
    (isC isR : List Nat) {wr : va_W} (hC : isC.map (fun i => ws[i]?) = wc.map some) (hRr : isR.map (fun i => ws[i]?) = wr.map some) (hnC : va_nd isC = true) (hnd : va_nd isR = true) (hdis : ∀ i ∈ isR, i ∉ isC) (d : decode cc pc = .ok (.invokevirtual idx, 3)) (hf : cells + 1 ≤ R.cells ∧ slots + 6 ≤ R.slots)
    (kx : ∀ E, T E → xwx X (cells + 1) (slots + 6) pc lv st (wr ++ wc) E) (kk : ∀ (r : Int32) (u : σ), P r u → xw X (cells + 1) (slots + 6) (pc + 3) lv (.int r :: st) (wr ++ wf u)) : xw X cells slots pc lv st0 ws := by
  obtain ⟨⟨p, l, e, R, s, m, args, below, meth, c⟩, ⟨D, cl, A, tys, nX, Q⟩⟩ := X
  obtain ⟨rfl, rfl, rfl, rfl, rfl, hx, hb, hml, rfl, hown, hts, hK, hA, hlk⟩ := K
  intro H locs ls hP hD hS hl
  have hE : xE ow2 L A s := ⟨hE.1, hE.2.1, fun q hq => hE.2.2 q (hL q hq)⟩
  have hPc := hP.sub (ws' := wc) isC (xfm hC)
  have hDc := hD.sub (ws' := wc) isC hnC hC
  have hFc := va_free (wc := wc) hD hS hA isC hC
  refine vx_calli (vx_runV (As := av) (rest := st) ⟨hx, hb, hml, hown, hts⟩ (hM H.size) (cwV n hts hg hw hrc hrs hd hroom) ⟨xPreT_blind, va_recv hK hPc hq hrec, fun U hU hW => ⟨rfl, by rw [hU], by rw [hU]; exact hPc, va_K.moved hW.alike hK, hDc.weaken (fun _ _ _ _ => trivial), xE_go hE hS hFc hU hW⟩⟩ rfl hn hl.1 hst (lv_room hcat) d hf) hS (fun q _ h => hFc q h) hFc (fun q _ h => hFc q h) (fun E ce q9 u t H1 locs ht hvm hw hB hz1 hk1 hS hce hcv hcc => ?_) (fun r u t H1 locs ht hvm hw hB hz1 hk1 hS => ?_)
  · obtain ⟨hT, hP1, hK1, hD1⟩ := hB
    rw [ht] at hP1
    obtain ⟨hP, hD⟩ := va_join (wr := wr) (w1 := wc) hP hD isC isR hC hRr hnd hdis hk1 hFc hP1 hD1
    exact kx E hT H1 locs ls ce q9 hP hD hS hl hce hcv hcc
  · obtain ⟨hP1, hK1, hD1⟩ := hB
    rw [ht] at hP1
    obtain ⟨hP, hD⟩ := va_join (wr := wr) (w1 := wf u) hP hD isC isR hC hRr hnd hdis hk1 hFc hP1 hD1
    exact kk r u hw H1 locs ls hP hD hS hl
theorem x_callVl {X : xC} {cc : ByteArray} {own : String} {Ts : List Cond} {nL cells slots pc : Nat} {lv : List (Nat × Value)} {st : List Value} {ws : va_W} {l : Launch} {R : Room} {D : va_G} {cl : List vw_C} {tys : List (ClassId × FieldType)} (K : xk X l R D cl tys cc own Ts nL) {y : MethodName} {w w' : List Cond} {rm : Room} {bytes : ByteArray} {maxL n idx : Nat} {b ci q0 : Nat} {fs : List Value} {q : vw_C} {av st0 : List Value} {wc : va_W} {σ : Type} {wf : σ → va_W} {P : Int64 → σ → Prop} (hM : xMl l y w rm D cl tys wc (.ref b :: av) wf P) (hrc : rm.cells = 0) (hrs : rm.slots = 0) (hg : GoodIn Ts (wsV own idx q.1 y w)) (hw : w = Cond.code y bytes maxL (some .long) :: w') (hd : y.cls = q.1 ∧ y.cls ≠ "java/lang/invoke/MethodHandle" ∧ y.cls ≠ "java/lang/invoke/VarHandle" ∧ (parseMethodDescriptor y.desc).map (fun d => d.parameters.length) = some n) (hroom : rm.frames + 1 ≤ R.frames ∧ 8 + (maxL + 11) + rm.locals ≤ R.locals) (hn : av.length = n) (hst : st0 = av.reverse ++ .ref b :: st) (hq : cl[ci]? = some q) (hrec : wc[q0]? = some (b, .inr (ci, fs))) (hcat : (st.map fun v => v.category).sum ≤ 8)
    (isC isR : List Nat) {wr : va_W} (hC : isC.map (fun i => ws[i]?) = wc.map some) (hRr : isR.map (fun i => ws[i]?) = wr.map some) (hnC : va_nd isC = true) (hnd : va_nd isR = true) (hdis : ∀ i ∈ isR, i ∉ isC) (d : decode cc pc = .ok (.invokevirtual idx, 3)) (hf : cells ≤ R.cells ∧ slots ≤ R.slots)
    (kk : ∀ (r : Int64) (u : σ), P r u → xw X cells slots (pc + 3) lv (.long r :: st) (wr ++ wf u)) : xw X cells slots pc lv st0 ws := by
  obtain ⟨⟨p, l, e, R, s, m, args, below, meth, c⟩, ⟨D, cl, A, tys, nX, Q⟩⟩ := X
  obtain ⟨rfl, rfl, rfl, rfl, rfl, hx, hb, hml, rfl, hown, hts, hK, hA, hlk⟩ := K
  intro H locs ls hP hD hS hl
  have hPc := hP.sub (ws' := wc) isC (xfm hC)
  have hDc := hD.sub (ws' := wc) isC hnC hC
  have hFc := va_free (wc := wc) hD hS hA isC hC
  refine va_calll (va_runV (As := av) (rest := st) ⟨hx, hb, hml, hown, hts⟩ (hM H.size) (cwV n hts hg hw hrc hrs hd hroom) ⟨xPre_blind, va_recv hK hPc hq hrec, fun U hU hW => ⟨rfl, by rw [hU], by rw [hU]; exact hPc, va_K.moved hW.alike hK, hDc.weaken (fun _ _ _ _ => trivial)⟩⟩ rfl hn hl.1 hst (lv_room hcat) d hf) hS (fun q _ h => hFc q h) hFc (fun r u t H1 locs ht hvm hw hB hz1 hk1 hS => ?_)
  obtain ⟨hP1, hK1, hD1⟩ := hB
  rw [ht] at hP1
  obtain ⟨hP, hD⟩ := va_join (wr := wr) (w1 := wf u) hP hD isC isR hC hRr hnd hdis hk1 hFc hP1 hD1
  exact kk r u hw H1 locs ls hP hD hS hl
theorem x_tcallVl {X : xC} {cc : ByteArray} {own : String} {Ts : List Cond} {nL cells slots pc : Nat} {lv : List (Nat × Value)} {st : List Value} {ws : va_W} {l : Launch} {R : Room} {D : va_G} {cl : List vw_C} {tys : List (ClassId × FieldType)} (K : xk X l R D cl tys cc own Ts nL) {y : MethodName} {w w' : List Cond} {rm : Room} {bytes : ByteArray} {maxL n idx : Nat} {b ci q0 : Nat} {fs : List Value} {q : vw_C} {av st0 : List Value} {wc : va_W} {σ : Type} {wf : σ → va_W} {P : Int64 → σ → Prop} {ow2 : String} {L L2 : List (Nat × String)} {T : String → Prop} (hE : xEx X ow2 L2) (hL : ∀ q ∈ L, q ∈ L2) (hM : xTl l y w rm D cl tys wc (.ref b :: av) ow2 L wf P T) (hrc : rm.cells = 1) (hrs : rm.slots = 6) (hg : GoodIn Ts (wsV own idx q.1 y w)) (hw : w = Cond.code y bytes maxL (some .long) :: w') (hd : y.cls = q.1 ∧ y.cls ≠ "java/lang/invoke/MethodHandle" ∧ y.cls ≠ "java/lang/invoke/VarHandle" ∧ (parseMethodDescriptor y.desc).map (fun d => d.parameters.length) = some n) (hroom : rm.frames + 1 ≤ R.frames ∧ 8 + (maxL + 11) + rm.locals ≤ R.locals) (hn : av.length = n) (hst : st0 = av.reverse ++ .ref b :: st) (hq : cl[ci]? = some q) (hrec : wc[q0]? = some (b, .inr (ci, fs))) (hcat : (st.map fun v => v.category).sum ≤ 8)
    (isC isR : List Nat) {wr : va_W} (hC : isC.map (fun i => ws[i]?) = wc.map some) (hRr : isR.map (fun i => ws[i]?) = wr.map some) (hnC : va_nd isC = true) (hnd : va_nd isR = true) (hdis : ∀ i ∈ isR, i ∉ isC) (d : decode cc pc = .ok (.invokevirtual idx, 3)) (hf : cells + 1 ≤ R.cells ∧ slots + 6 ≤ R.slots)
    (kx : ∀ E, T E → xwx X (cells + 1) (slots + 6) pc lv st (wr ++ wc) E) (kk : ∀ (r : Int64) (u : σ), P r u → xw X (cells + 1) (slots + 6) (pc + 3) lv (.long r :: st) (wr ++ wf u)) : xw X cells slots pc lv st0 ws := by
  obtain ⟨⟨p, l, e, R, s, m, args, below, meth, c⟩, ⟨D, cl, A, tys, nX, Q⟩⟩ := X
  obtain ⟨rfl, rfl, rfl, rfl, rfl, hx, hb, hml, rfl, hown, hts, hK, hA, hlk⟩ := K
  intro H locs ls hP hD hS hl
  have hE : xE ow2 L A s := ⟨hE.1, hE.2.1, fun q hq => hE.2.2 q (hL q hq)⟩
  have hPc := hP.sub (ws' := wc) isC (xfm hC)
  have hDc := hD.sub (ws' := wc) isC hnC hC
  have hFc := va_free (wc := wc) hD hS hA isC hC
  refine vx_calll (vx_runV (As := av) (rest := st) ⟨hx, hb, hml, hown, hts⟩ (hM H.size) (cwV n hts hg hw hrc hrs hd hroom) ⟨xPreT_blind, va_recv hK hPc hq hrec, fun U hU hW => ⟨rfl, by rw [hU], by rw [hU]; exact hPc, va_K.moved hW.alike hK, hDc.weaken (fun _ _ _ _ => trivial), xE_go hE hS hFc hU hW⟩⟩ rfl hn hl.1 hst (lv_room hcat) d hf) hS (fun q _ h => hFc q h) hFc (fun q _ h => hFc q h) (fun E ce q9 u t H1 locs ht hvm hw hB hz1 hk1 hS hce hcv hcc => ?_) (fun r u t H1 locs ht hvm hw hB hz1 hk1 hS => ?_)
  · obtain ⟨hT, hP1, hK1, hD1⟩ := hB
    rw [ht] at hP1
    obtain ⟨hP, hD⟩ := va_join (wr := wr) (w1 := wc) hP hD isC isR hC hRr hnd hdis hk1 hFc hP1 hD1
    exact kx E hT H1 locs ls ce q9 hP hD hS hl hce hcv hcc
  · obtain ⟨hP1, hK1, hD1⟩ := hB
    rw [ht] at hP1
    obtain ⟨hP, hD⟩ := va_join (wr := wr) (w1 := wf u) hP hD isC isR hC hRr hnd hdis hk1 hFc hP1 hD1
    exact kk r u hw H1 locs ls hP hD hS hl
theorem x_callVv {X : xC} {cc : ByteArray} {own : String} {Ts : List Cond} {nL cells slots pc : Nat} {lv : List (Nat × Value)} {st : List Value} {ws : va_W} {l : Launch} {R : Room} {D : va_G} {cl : List vw_C} {tys : List (ClassId × FieldType)} (K : xk X l R D cl tys cc own Ts nL) {y : MethodName} {w w' : List Cond} {rm : Room} {bytes : ByteArray} {maxL n idx : Nat} {b ci q0 : Nat} {fs : List Value} {q : vw_C} {av st0 : List Value} {wc : va_W} {σ : Type} {wf : σ → va_W} {P : σ → Prop} (hM : xMv l y w rm D cl tys wc (.ref b :: av) wf P) (hrc : rm.cells = 0) (hrs : rm.slots = 0) (hg : GoodIn Ts (wsV own idx q.1 y w)) (hw : w = Cond.code y bytes maxL (none) :: w') (hd : y.cls = q.1 ∧ y.cls ≠ "java/lang/invoke/MethodHandle" ∧ y.cls ≠ "java/lang/invoke/VarHandle" ∧ (parseMethodDescriptor y.desc).map (fun d => d.parameters.length) = some n) (hroom : rm.frames + 1 ≤ R.frames ∧ 8 + (maxL + 11) + rm.locals ≤ R.locals) (hn : av.length = n) (hst : st0 = av.reverse ++ .ref b :: st) (hq : cl[ci]? = some q) (hrec : wc[q0]? = some (b, .inr (ci, fs))) (hcat : (st.map fun v => v.category).sum ≤ 8)
    (isC isR : List Nat) {wr : va_W} (hC : isC.map (fun i => ws[i]?) = wc.map some) (hRr : isR.map (fun i => ws[i]?) = wr.map some) (hnC : va_nd isC = true) (hnd : va_nd isR = true) (hdis : ∀ i ∈ isR, i ∉ isC) (d : decode cc pc = .ok (.invokevirtual idx, 3)) (hf : cells ≤ R.cells ∧ slots ≤ R.slots)
    (kk : ∀ (u : σ), P u → xw X cells slots (pc + 3) lv st (wr ++ wf u)) : xw X cells slots pc lv st0 ws := by
  obtain ⟨⟨p, l, e, R, s, m, args, below, meth, c⟩, ⟨D, cl, A, tys, nX, Q⟩⟩ := X
  obtain ⟨rfl, rfl, rfl, rfl, rfl, hx, hb, hml, rfl, hown, hts, hK, hA, hlk⟩ := K
  intro H locs ls hP hD hS hl
  have hPc := hP.sub (ws' := wc) isC (xfm hC)
  have hDc := hD.sub (ws' := wc) isC hnC hC
  have hFc := va_free (wc := wc) hD hS hA isC hC
  refine va_callv (va_runV (As := av) (rest := st) ⟨hx, hb, hml, hown, hts⟩ (hM H.size) (cwV n hts hg hw hrc hrs hd hroom) ⟨xPre_blind, va_recv hK hPc hq hrec, fun U hU hW => ⟨rfl, by rw [hU], by rw [hU]; exact hPc, va_K.moved hW.alike hK, hDc.weaken (fun _ _ _ _ => trivial)⟩⟩ rfl hn hl.1 hst (lv_room hcat) d hf) hS (fun q _ h => hFc q h) hFc (fun u t H1 locs ht hvm hw hB hz1 hk1 hS => ?_)
  obtain ⟨hP1, hK1, hD1⟩ := hB
  rw [ht] at hP1
  obtain ⟨hP, hD⟩ := va_join (wr := wr) (w1 := wf u) hP hD isC isR hC hRr hnd hdis hk1 hFc hP1 hD1
  exact kk u hw H1 locs ls hP hD hS hl
theorem x_tcallVv {X : xC} {cc : ByteArray} {own : String} {Ts : List Cond} {nL cells slots pc : Nat} {lv : List (Nat × Value)} {st : List Value} {ws : va_W} {l : Launch} {R : Room} {D : va_G} {cl : List vw_C} {tys : List (ClassId × FieldType)} (K : xk X l R D cl tys cc own Ts nL) {y : MethodName} {w w' : List Cond} {rm : Room} {bytes : ByteArray} {maxL n idx : Nat} {b ci q0 : Nat} {fs : List Value} {q : vw_C} {av st0 : List Value} {wc : va_W} {σ : Type} {wf : σ → va_W} {P : σ → Prop} {ow2 : String} {L L2 : List (Nat × String)} {T : String → Prop} (hE : xEx X ow2 L2) (hL : ∀ q ∈ L, q ∈ L2) (hM : xTv l y w rm D cl tys wc (.ref b :: av) ow2 L wf P T) (hrc : rm.cells = 1) (hrs : rm.slots = 6) (hg : GoodIn Ts (wsV own idx q.1 y w)) (hw : w = Cond.code y bytes maxL (none) :: w') (hd : y.cls = q.1 ∧ y.cls ≠ "java/lang/invoke/MethodHandle" ∧ y.cls ≠ "java/lang/invoke/VarHandle" ∧ (parseMethodDescriptor y.desc).map (fun d => d.parameters.length) = some n) (hroom : rm.frames + 1 ≤ R.frames ∧ 8 + (maxL + 11) + rm.locals ≤ R.locals) (hn : av.length = n) (hst : st0 = av.reverse ++ .ref b :: st) (hq : cl[ci]? = some q) (hrec : wc[q0]? = some (b, .inr (ci, fs))) (hcat : (st.map fun v => v.category).sum ≤ 8)
    (isC isR : List Nat) {wr : va_W} (hC : isC.map (fun i => ws[i]?) = wc.map some) (hRr : isR.map (fun i => ws[i]?) = wr.map some) (hnC : va_nd isC = true) (hnd : va_nd isR = true) (hdis : ∀ i ∈ isR, i ∉ isC) (d : decode cc pc = .ok (.invokevirtual idx, 3)) (hf : cells + 1 ≤ R.cells ∧ slots + 6 ≤ R.slots)
    (kx : ∀ E, T E → xwx X (cells + 1) (slots + 6) pc lv st (wr ++ wc) E) (kk : ∀ (u : σ), P u → xw X (cells + 1) (slots + 6) (pc + 3) lv st (wr ++ wf u)) : xw X cells slots pc lv st0 ws := by
  obtain ⟨⟨p, l, e, R, s, m, args, below, meth, c⟩, ⟨D, cl, A, tys, nX, Q⟩⟩ := X
  obtain ⟨rfl, rfl, rfl, rfl, rfl, hx, hb, hml, rfl, hown, hts, hK, hA, hlk⟩ := K
  intro H locs ls hP hD hS hl
  have hE : xE ow2 L A s := ⟨hE.1, hE.2.1, fun q hq => hE.2.2 q (hL q hq)⟩
  have hPc := hP.sub (ws' := wc) isC (xfm hC)
  have hDc := hD.sub (ws' := wc) isC hnC hC
  have hFc := va_free (wc := wc) hD hS hA isC hC
  refine vx_callv (vx_runV (As := av) (rest := st) ⟨hx, hb, hml, hown, hts⟩ (hM H.size) (cwV n hts hg hw hrc hrs hd hroom) ⟨xPreT_blind, va_recv hK hPc hq hrec, fun U hU hW => ⟨rfl, by rw [hU], by rw [hU]; exact hPc, va_K.moved hW.alike hK, hDc.weaken (fun _ _ _ _ => trivial), xE_go hE hS hFc hU hW⟩⟩ rfl hn hl.1 hst (lv_room hcat) d hf) hS (fun q _ h => hFc q h) hFc (fun q _ h => hFc q h) (fun E ce q9 u t H1 locs ht hvm hw hB hz1 hk1 hS hce hcv hcc => ?_) (fun u t H1 locs ht hvm hw hB hz1 hk1 hS => ?_)
  · obtain ⟨hT, hP1, hK1, hD1⟩ := hB
    rw [ht] at hP1
    obtain ⟨hP, hD⟩ := va_join (wr := wr) (w1 := wc) hP hD isC isR hC hRr hnd hdis hk1 hFc hP1 hD1
    exact kx E hT H1 locs ls ce q9 hP hD hS hl hce hcv hcc
  · obtain ⟨hP1, hK1, hD1⟩ := hB
    rw [ht] at hP1
    obtain ⟨hP, hD⟩ := va_join (wr := wr) (w1 := wf u) hP hD isC isR hC hRr hnd hdis hk1 hFc hP1 hD1
    exact kk u hw H1 locs ls hP hD hS hl
theorem x_callVz {X : xC} {cc : ByteArray} {own : String} {Ts : List Cond} {nL cells slots pc : Nat} {lv : List (Nat × Value)} {st : List Value} {ws : va_W} {l : Launch} {R : Room} {D : va_G} {cl : List vw_C} {tys : List (ClassId × FieldType)} (K : xk X l R D cl tys cc own Ts nL) {y : MethodName} {w w' : List Cond} {rm : Room} {bytes : ByteArray} {maxL n idx : Nat} {b ci q0 : Nat} {fs : List Value} {q : vw_C} {av st0 : List Value} {wc : va_W} {σ : Type} {wf : σ → va_W} {P : Int32 → σ → Prop} (hM : xMz l y w rm D cl tys wc (.ref b :: av) wf P) (hrc : rm.cells = 0) (hrs : rm.slots = 0) (hg : GoodIn Ts (wsV own idx q.1 y w)) (hw : w = Cond.code y bytes maxL (some .boolean) :: w') (hd : y.cls = q.1 ∧ y.cls ≠ "java/lang/invoke/MethodHandle" ∧ y.cls ≠ "java/lang/invoke/VarHandle" ∧ (parseMethodDescriptor y.desc).map (fun d => d.parameters.length) = some n) (hroom : rm.frames + 1 ≤ R.frames ∧ 8 + (maxL + 11) + rm.locals ≤ R.locals) (hn : av.length = n) (hst : st0 = av.reverse ++ .ref b :: st) (hq : cl[ci]? = some q) (hrec : wc[q0]? = some (b, .inr (ci, fs))) (hcat : (st.map fun v => v.category).sum ≤ 8)
    (isC isR : List Nat) {wr : va_W} (hC : isC.map (fun i => ws[i]?) = wc.map some) (hRr : isR.map (fun i => ws[i]?) = wr.map some) (hnC : va_nd isC = true) (hnd : va_nd isR = true) (hdis : ∀ i ∈ isR, i ∉ isC) (d : decode cc pc = .ok (.invokevirtual idx, 3)) (hf : cells ≤ R.cells ∧ slots ≤ R.slots)
    (kk : ∀ (r : Int32) (u : σ), P r u → xw X cells slots (pc + 3) lv (.int r :: st) (wr ++ wf u)) : xw X cells slots pc lv st0 ws := by
  obtain ⟨⟨p, l, e, R, s, m, args, below, meth, c⟩, ⟨D, cl, A, tys, nX, Q⟩⟩ := X
  obtain ⟨rfl, rfl, rfl, rfl, rfl, hx, hb, hml, rfl, hown, hts, hK, hA, hlk⟩ := K
  intro H locs ls hP hD hS hl
  have hPc := hP.sub (ws' := wc) isC (xfm hC)
  have hDc := hD.sub (ws' := wc) isC hnC hC
  have hFc := va_free (wc := wc) hD hS hA isC hC
  refine va_calli (va_runV (As := av) (rest := st) ⟨hx, hb, hml, hown, hts⟩ (hM H.size) (cwV n hts hg hw hrc hrs hd hroom) ⟨xPre_blind, va_recv hK hPc hq hrec, fun U hU hW => ⟨rfl, by rw [hU], by rw [hU]; exact hPc, va_K.moved hW.alike hK, hDc.weaken (fun _ _ _ _ => trivial)⟩⟩ rfl hn hl.1 hst (lv_room hcat) d hf) hS (fun q _ h => hFc q h) hFc (fun r u t H1 locs ht hvm hw hB hz1 hk1 hS => ?_)
  obtain ⟨hP1, hK1, hD1⟩ := hB
  rw [ht] at hP1
  obtain ⟨hP, hD⟩ := va_join (wr := wr) (w1 := wf u) hP hD isC isR hC hRr hnd hdis hk1 hFc hP1 hD1
  exact kk r u hw H1 locs ls hP hD hS hl
theorem x_tcallVz {X : xC} {cc : ByteArray} {own : String} {Ts : List Cond} {nL cells slots pc : Nat} {lv : List (Nat × Value)} {st : List Value} {ws : va_W} {l : Launch} {R : Room} {D : va_G} {cl : List vw_C} {tys : List (ClassId × FieldType)} (K : xk X l R D cl tys cc own Ts nL) {y : MethodName} {w w' : List Cond} {rm : Room} {bytes : ByteArray} {maxL n idx : Nat} {b ci q0 : Nat} {fs : List Value} {q : vw_C} {av st0 : List Value} {wc : va_W} {σ : Type} {wf : σ → va_W} {P : Int32 → σ → Prop} {ow2 : String} {L L2 : List (Nat × String)} {T : String → Prop} (hE : xEx X ow2 L2) (hL : ∀ q ∈ L, q ∈ L2) (hM : xTz l y w rm D cl tys wc (.ref b :: av) ow2 L wf P T) (hrc : rm.cells = 1) (hrs : rm.slots = 6) (hg : GoodIn Ts (wsV own idx q.1 y w)) (hw : w = Cond.code y bytes maxL (some .boolean) :: w') (hd : y.cls = q.1 ∧ y.cls ≠ "java/lang/invoke/MethodHandle" ∧ y.cls ≠ "java/lang/invoke/VarHandle" ∧ (parseMethodDescriptor y.desc).map (fun d => d.parameters.length) = some n) (hroom : rm.frames + 1 ≤ R.frames ∧ 8 + (maxL + 11) + rm.locals ≤ R.locals) (hn : av.length = n) (hst : st0 = av.reverse ++ .ref b :: st) (hq : cl[ci]? = some q) (hrec : wc[q0]? = some (b, .inr (ci, fs))) (hcat : (st.map fun v => v.category).sum ≤ 8)
    (isC isR : List Nat) {wr : va_W} (hC : isC.map (fun i => ws[i]?) = wc.map some) (hRr : isR.map (fun i => ws[i]?) = wr.map some) (hnC : va_nd isC = true) (hnd : va_nd isR = true) (hdis : ∀ i ∈ isR, i ∉ isC) (d : decode cc pc = .ok (.invokevirtual idx, 3)) (hf : cells + 1 ≤ R.cells ∧ slots + 6 ≤ R.slots)
    (kx : ∀ E, T E → xwx X (cells + 1) (slots + 6) pc lv st (wr ++ wc) E) (kk : ∀ (r : Int32) (u : σ), P r u → xw X (cells + 1) (slots + 6) (pc + 3) lv (.int r :: st) (wr ++ wf u)) : xw X cells slots pc lv st0 ws := by
  obtain ⟨⟨p, l, e, R, s, m, args, below, meth, c⟩, ⟨D, cl, A, tys, nX, Q⟩⟩ := X
  obtain ⟨rfl, rfl, rfl, rfl, rfl, hx, hb, hml, rfl, hown, hts, hK, hA, hlk⟩ := K
  intro H locs ls hP hD hS hl
  have hE : xE ow2 L A s := ⟨hE.1, hE.2.1, fun q hq => hE.2.2 q (hL q hq)⟩
  have hPc := hP.sub (ws' := wc) isC (xfm hC)
  have hDc := hD.sub (ws' := wc) isC hnC hC
  have hFc := va_free (wc := wc) hD hS hA isC hC
  refine vx_calli (vx_runV (As := av) (rest := st) ⟨hx, hb, hml, hown, hts⟩ (hM H.size) (cwV n hts hg hw hrc hrs hd hroom) ⟨xPreT_blind, va_recv hK hPc hq hrec, fun U hU hW => ⟨rfl, by rw [hU], by rw [hU]; exact hPc, va_K.moved hW.alike hK, hDc.weaken (fun _ _ _ _ => trivial), xE_go hE hS hFc hU hW⟩⟩ rfl hn hl.1 hst (lv_room hcat) d hf) hS (fun q _ h => hFc q h) hFc (fun q _ h => hFc q h) (fun E ce q9 u t H1 locs ht hvm hw hB hz1 hk1 hS hce hcv hcc => ?_) (fun r u t H1 locs ht hvm hw hB hz1 hk1 hS => ?_)
  · obtain ⟨hT, hP1, hK1, hD1⟩ := hB
    rw [ht] at hP1
    obtain ⟨hP, hD⟩ := va_join (wr := wr) (w1 := wc) hP hD isC isR hC hRr hnd hdis hk1 hFc hP1 hD1
    exact kx E hT H1 locs ls ce q9 hP hD hS hl hce hcv hcc
  · obtain ⟨hP1, hK1, hD1⟩ := hB
    rw [ht] at hP1
    obtain ⟨hP, hD⟩ := va_join (wr := wr) (w1 := wf u) hP hD isC isR hC hRr hnd hdis hk1 hFc hP1 hD1
    exact kk r u hw H1 locs ls hP hD hS hl
end XCALL
end
