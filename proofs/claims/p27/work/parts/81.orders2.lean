/-! orders -/
def bB (n : Nat → Nat) (b : Bool) (i j : Nat) : Bool := if b = true then (decide (pc (n j) < pc (n i)) || (decide (pc (n i) = pc (n j)) && decide (i < j))) else decide (i < j)
theorem bB_iff {n : Nat → Nat} {b : Bool} {i j : Nat} : bB n b i j = true ↔ bet n b i j := by
  unfold bB bet
  cases b
  · rw [if_neg Bool.false_ne_true, decide_eq_true_eq]
    exact ⟨fun h => Or.inr ⟨Or.inl rfl, h⟩, fun h => h.elim (fun q => (by cases q.1)) (fun q => q.2)⟩
  · rw [if_pos rfl, Bool.or_eq_true, Bool.and_eq_true, decide_eq_true_eq, decide_eq_true_eq, decide_eq_true_eq]
    refine ⟨fun h => h.elim (fun q => Or.inl ⟨rfl, q⟩) (fun q => Or.inr ⟨Or.inr q.1.symm, q.2⟩), fun h => ?_⟩
    rcases h with h | ⟨h1 | h1, h2⟩
    · exact Or.inl h.2
    · cases h1
    · exact Or.inr ⟨h1.symm, h2⟩
section OR2
variable {land : Nat → Int64} {there : Int32} {near worn trial : Nat → Int32} {c t : Nat → Nat} {b : Bool}
theorem first_tree {n : Nat → Nat} (hg : ∀ k, k < 10 → n k < 1024) {nb : Nat → Int32} (hN : ∀ a, a < 10 → nb a = nI (n a)) {k o : Nat} (hk : k < 10) (ho : o < 10) {R : Int32 → Prop} (h : R (bI (bB n b o k))) : xj1 R (fun (J9 : Int32 → Prop) => ((bI b = (0 : Int32) → ((nI k ≤ nI o → J9 (0 : Int32)) ∧ (¬ nI k ≤ nI o → J9 (1 : Int32)))) ∧ (¬ bI b = (0 : Int32) → xin (nI o) 10 = true ∧ q_L_many (nb (nI o).toNatClampNeg) (fun (r15 : Int32) => xin (nI k) 10 = true ∧ q_L_many (nb (nI k).toNatClampNeg) (fun (r16 : Int32) => xj0 (J9 (1 : Int32)) (fun (J17 : Prop) => ((r16 < r15 → J17) ∧ (¬ r16 < r15 → xin (nI o) 10 = true ∧ q_L_many (nb (nI o).toNatClampNeg) (fun (r18 : Int32) => xin (nI k) 10 = true ∧ q_L_many (nb (nI k).toNatClampNeg) (fun (r19 : Int32) => xj0 (J9 (0 : Int32)) (fun (J20 : Prop) => ((¬ r18 = r19 → J20) ∧ (r18 = r19 → ((nI k ≤ nI o → J20) ∧ (¬ nI k ≤ nI o → J17))))))))))))))) := by
  rw [nI_clamp (n := o) (by omega), nI_clamp (n := k) (by omega), hN o ho, hN k hk, nI_leI (by omega) (by omega)]
  have p1 := pc_10 (hg o ho)
  have p2 := pc_10 (hg k hk)
  have xo := xin_nI ho (n := 10) (by decide)
  have xk := xin_nI hk (n := 10) (by decide)
  refine xj1_i (bI (bB n b o k)) (fun J hJ => ?_) h
  cases b
  · unfold bB at hJ
    rw [if_neg Bool.false_ne_true] at hJ
    refine ⟨fun _ => ⟨fun q => ?_, fun q => ?_⟩, fun q => absurd rfl q⟩
    · rw [decide_eq_false (by omega)] at hJ; exact hJ
    · rw [decide_eq_true (by omega)] at hJ; exact hJ
  · unfold bB at hJ
    rw [if_pos rfl] at hJ
    refine ⟨fun q => absurd q (by decide), fun _ => ⟨xo, many_spec (hg o ho) ⟨xk, many_spec (hg k hk) ?_⟩⟩⟩
    rw [nI_ltI (by omega) (by omega)]
    by_cases e1 : pc (n k) < pc (n o)
    · rw [decide_eq_true e1, Bool.true_or] at hJ
      exact xj0_i (fun J2 h2 => ⟨fun _ => h2, fun q => absurd e1 q⟩) hJ
    · rw [decide_eq_false e1, Bool.false_or] at hJ
      by_cases e2 : pc (n o) = pc (n k) ∧ o < k
      · rw [decide_eq_true e2.1, decide_eq_true e2.2] at hJ
        exact xj0_i (fun J2 h2 => ⟨fun _ => h2, fun _ => ⟨xo, many_spec (hg o ho) ⟨xk, many_spec (hg k hk) (xj0_u (fun J3 => ⟨fun q => absurd (by rw [e2.1]) q, fun _ => ⟨fun q => absurd q (by omega), fun _ => h2⟩⟩))⟩⟩⟩) hJ
      · rw [← Bool.decide_and, decide_eq_false e2] at hJ
        refine xj0_u (fun J2 => ⟨fun q => absurd q e1, fun _ => ⟨xo, many_spec (hg o ho) ⟨xk, many_spec (hg k hk) (xj0_i (fun J3 h3 => ⟨fun _ => h3, fun q => ⟨fun _ => h3, fun q2 => ?_⟩⟩) hJ)⟩⟩⟩)
        exact absurd ⟨(nI_eq (by omega) (by omega)).mp q, by omega⟩ e2
def N9 (n : Nat → Nat) (b : Bool) (k : Nat) : Nat := so (fun o => (n k).testBit o && bB n b o k) 10
theorem N9_bit {n : Nat → Nat} {k j : Nat} (hj : j < 10) : (N9 n b k).testBit j = ((n k).testBit j && bB n b j k) := by
  unfold N9
  rw [so_bit, decide_eq_true hj, Bool.true_and]
theorem orders_64 (r : RX land there near worn c t) {nb : Nat → Int32} (hN : ∀ a, a < 10 → nb a = nI (ne_S c a)) {k : Nat} (hk : k < 10) {P0 : Int32 → Prop} (h : P0 (nI (us (N9 (ne_S c) b k) t 10))) : ∀ (d j : Nat), j + d = 10 → q_L_orders_L64 (bI b) (nI k) worn nb P0 (d + 1) (nI (us (N9 (ne_S c) b k) t j)) (nI j) := by
  intro d
  induction d with
  | zero =>
    intro j hj
    rw [q_L_orders_L64]
    have : j = 10 := by omega
    subst this
    exact ⟨fun _ => h, fun q => absurd (show (10 : Int32) ≤ nI 10 by decide) q⟩
  | succ d ih =>
    intro j hj
    have hj10 : j < 10 := by omega
    have g := ih (j + 1) (by omega)
    have htj := r.2.1 j hj10
    rw [q_L_orders_L64]
    refine ⟨fun q => absurd q (ge10 hj10), fun _ => first_tree (gr_ne c).1 hN hk hj10 ?_⟩
    rw [nI_clamp (n := k) (by omega), hN k hk, pI_tb (ne_lt c k) hj10, show nI j + (1 : Int32) = nI (j + 1) from nI_add j 1]
    rw [us, N9_bit hj10] at g
    cases e1 : bB (ne_S c) b j k
    · rw [e1, Bool.and_false, if_neg Bool.false_ne_true] at g
      refine ⟨fun _ => xl_i ?_, fun q => absurd rfl q⟩
      rw [I_or0]; exact g
    · rw [e1, Bool.and_true] at g
      refine ⟨fun q => absurd q (by decide), fun _ => ⟨xin_nI hk (by decide), fun q => xl_i ?_, fun q => z_tintOf r hj10 (xl_i ?_)⟩⟩
      · rw [if_neg q] at g
        rw [I_or0]; exact g
      · rw [if_pos q] at g
        rw [pI_bit (by omega), pI_or]
        exact g
theorem area_le0 (r : RX land there near worn c t) {k : Nat} (hk : k < 10) : nI (pc (ld_S c k)) ≤ (0 : Int32) ↔ (th_S c).testBit k = false := by
  have hp := pc_36 (ld_lt c k)
  rw [nI_le0 (by omega), th_bit hk]
  refine ⟨fun q => decide_eq_false (fun z => z (pc_0 (ld_lt c k) (by omega))), fun q => ?_⟩
  have := of_decide_eq_false q
  have : ld_S c k = 0 := Classical.byContradiction this
  rw [this, pc_z]
theorem max_if {a m : Nat} (ha : a ≤ 10) (hm : m ≤ 10) {J : Int32 → Prop} (h : J (nI (max m a))) : (nI a ≤ nI m → J (nI m)) ∧ (¬ nI a ≤ nI m → J (nI a)) := by
  rw [nI_leI (by omega) (by omega)]
  refine ⟨fun q => ?_, fun q => ?_⟩
  · rw [Nat.max_eq_left q] at h; exact h
  · rw [Nat.max_eq_right (by omega)] at h; exact h
theorem orders_18 {t0 : Nat → Nat} (r : RX land there near worn c (o9 c b t0)) {nb : Nat → Int32} (hN : ∀ a, a < 10 → nb a = nI (ne_S c a)) {P0 : Int32 → Prop} {P1 : Prop} (h : P0 (nI (mx9 (th_S c) (o9 c b t0) 10))) : ∀ (d k : Nat), k + d = 10 → q_L_orders_L18 (bI b) land worn nb P0 P1 (d + 1) (nI (mx9 (th_S c) (o9 c b t0) k)) (nI k) := by
  intro d
  induction d with
  | zero =>
    intro k hk
    rw [q_L_orders_L18]
    have : k = 10 := by omega
    subst this
    exact ⟨fun _ => h, fun q => absurd (show (10 : Int32) ≤ nI 10 by decide) q⟩
  | succ d ih =>
    intro k hk
    have hk10 : k < 10 := by omega
    have g := ih (k + 1) (by omega)
    have ht := r.2.1
    have hmx : mx9 (th_S c) (o9 c b t0) k ≤ 10 := mx9_le (fun i hi _ => ht i (by omega))
    rw [q_L_orders_L18]
    refine ⟨fun q => absurd q (ge10 hk10), fun _ => z_area r hk10 ?_⟩
    rw [area_le0 r hk10, show nI k + (1 : Int32) = nI (k + 1) from nI_add k 1]
    rw [mx9] at g
    refine ⟨fun q => ?_, fun q => z_tintOf r hk10 ?_⟩
    · rw [if_neg (by rw [q]; exact Bool.false_ne_true)] at g
      exact g
    · have hth : (th_S c).testBit k = true := by
        cases z : (th_S c).testBit k
        · exact absurd z q
        · rfl
      rw [if_pos hth] at g
      obtain ⟨E, e1, e2⟩ := o9_LF (b := b) (t := t0) hk10 hth
      have hLF : LF (N9 (ne_S c) b k) (o9 c b t0) (o9 c b t0 k) := LF_cong (fun j hj => by
        rw [Nat.testBit_and, N9_bit hj, Bool.and_eq_true, Bool.and_eq_true, bB_iff]
        exact ⟨fun q => ⟨q.1, (e1 j hj q.1).mp q.2⟩, fun q => ⟨q.1, (e1 j hj q.1).mpr q.2⟩⟩) (fun j _ _ => rfl) e2
      obtain ⟨f1, f2, f3, f4⟩ := hLF
      refine xj1_i (nI (max (mx9 (th_S c) (o9 c b t0) k) (o9 c b t0 k))) (fun J hJ => max_if (ht k hk10) hmx hJ) ⟨11, orders_64 r hN hk10 ?_ 10 0 rfl⟩
      refine ⟨fun q => absurd q (nI_nlt (b := 1) f1 (by omega)), fun _ => ?_⟩
      exact lf_bits (us_lt ht 10 (Nat.le_refl _)) f1 f2 (bfalse (fun q => f3 (us_taken.mp q))) (fun v v1 v2 => us_taken.mpr (f4 v v1 v2)) g
theorem orders_270 (r : RX land there near worn c t) {f : Nat} (hf : f ≤ 10) (hs : ∀ k, k < 10 → (th_S c).testBit k = true → t k ≤ mx9 (th_S c) t k + 1 ∧ t k ≤ f) {P0 : Int32 → Int32 → Prop} (h : P0 1 (nI (mx9 (th_S c) t 10))) : ∀ (d k : Nat), k + d = 10 → q_L_orders_L270 (nI f) land worn P0 (d + 1) 1 (nI (mx9 (th_S c) t k)) (nI k) := by
  intro d
  induction d with
  | zero =>
    intro k hk
    rw [q_L_orders_L270]
    have : k = 10 := by omega
    subst this
    exact ⟨fun _ => h, fun q => absurd (show (10 : Int32) ≤ nI 10 by decide) q⟩
  | succ d ih =>
    intro k hk
    have hk10 : k < 10 := by omega
    have g := ih (k + 1) (by omega)
    have ht := r.2.1
    have hmx : mx9 (th_S c) t k ≤ 10 := mx9_le (fun i hi _ => ht i (by omega))
    rw [q_L_orders_L270]
    refine ⟨fun q => absurd q (ge10 hk10), fun _ => z_area r hk10 ?_⟩
    rw [area_le0 r hk10, show nI k + (1 : Int32) = nI (k + 1) from nI_add k 1]
    rw [mx9] at g
    refine ⟨fun q => ?_, fun q => z_tintOf r hk10 ?_⟩
    · rw [if_neg (by rw [q]; exact Bool.false_ne_true)] at g
      exact g
    · have hth : (th_S c).testBit k = true := by
        cases z : (th_S c).testBit k
        · exact absurd z q
        · rfl
      rw [if_pos hth] at g
      obtain ⟨s1, s2⟩ := hs k hk10 hth
      have hkk := ht k hk10
      rw [show nI (mx9 (th_S c) t k) + (1 : Int32) = nI (mx9 (th_S c) t k + 1) from nI_add _ 1]
      refine xj1_i (1 : Int32) (fun J hJ => xj0_u (fun J2 => ⟨fun q => absurd q (by decide), fun _ => ⟨fun q => absurd q (nI_nlt s1 (by omega)), fun _ => ⟨fun q => absurd q (nI_nlt s2 (by omega)), fun _ => hJ⟩⟩⟩)) (max_if (J := fun x => q_L_orders_L270 (nI f) land worn P0 (d + 1) 1 x (nI (k + 1))) hkk hmx g)
theorem mx9_cong {S : Nat} {T T' : Nat → Nat} : ∀ {m : Nat}, (∀ k, k < m → S.testBit k = true → T k = T' k) → mx9 S T m = mx9 S T' m := by
  intro m
  induction m with
  | zero => intro _; rfl
  | succ m ih =>
    intro h
    rw [mx9, mx9, ih (fun k hk => h k (by omega))]
    split
    · rename_i q
      rw [h m (by omega) q]
    · rfl
theorem orders_spec (r : RX land there near worn c t) {nb : Nat → Int32} (hN : ∀ a, a < 10 → nb a = nI (ne_S c a)) {P : Int32 → (Nat → Int32) → (Nat → Int32) → Prop} (h : ∀ worn' t' tr, RX land there near worn' c t' → P 1 worn' tr) : q_L_orders (bI b) land there near worn trial nb P := by
  obtain ⟨f, hf⟩ := few_c c
  have hf1 := hf.1
  unfold q_L_orders
  refine z_fewest r hf (fun tr1 => z_order r (fun w1 r1 => ?_))
  rw [o9_max]
  have ht1 := r1.2.1
  have hmx : mx9 (th_S c) (o9 c b t) 10 ≤ 10 := mx9_le (fun i hi _ => ht1 i hi)
  have hcol := o9_col (c := c) (b := b) (t := t)
  have hfm : f ≤ mx9 (th_S c) (o9 c b t) 10 := few_min hf.2.2 ((rr_col (gr_ne c) _ _ (th_lt c)).mpr ⟨_, hcol⟩)
  refine ⟨11, orders_18 r1 hN ?_ 10 0 rfl⟩
  refine xj3_all (fun a w tr => a = 1 ∧ ∃ bb, Best (ne_S c) f (th_S c) 0 (fun _ => 0) bb ∧ RX land there near w c (fun j => if (th_S c).testBit j = true then bb j else o9 c b t j)) (fun J hJ => ?_) (fun a w tr q => ?_)
  · unfold xj2
    refine ⟨fun q => absurd rfl q, fun _ => ⟨fun q => absurd q (nI_nlt hfm (by omega)), fun _ => z_isTinted r1 ?_⟩⟩
    rw [col_tinted hcol]
    refine ⟨fun q => absurd q (by decide), fun _ => z_twf r1 hf (fun bb tr2 w2 hB r2 => ⟨fun q => absurd rfl q, fun _ => z_isTinted r2 ?_⟩)⟩
    have hc2 : Col (ne_S c) f (th_S c) (fun j => if (th_S c).testBit j = true then bb j else o9 c b t j) := by
      refine ⟨fun i hi si => ?_, fun i j hi hj si sj hn => ?_⟩
      · show 1 ≤ (if (th_S c).testBit i = true then bb i else o9 c b t i) ∧ (if (th_S c).testBit i = true then bb i else o9 c b t i) ≤ f
        rw [if_pos si]
        exact hB.1.1.1 i hi si
      · show (if (th_S c).testBit i = true then bb i else o9 c b t i) ≠ (if (th_S c).testBit j = true then bb j else o9 c b t j)
        rw [if_pos si, if_pos sj]
        exact hB.1.1.2 i j hi hj si sj hn
    rw [col_tinted hc2]
    exact ⟨fun q => absurd q (by decide), fun _ => hJ _ _ _ ⟨rfl, bb, hB, r2⟩⟩
  · obtain ⟨rfl, bb, hB, r2⟩ := q
    have hce : ∀ m, mx9 (th_S c) (fun j => if (th_S c).testBit j = true then bb j else o9 c b t j) m = mx9 (th_S c) bb m := fun m => mx9_cong (fun k _ hs => if_pos hs)
    refine ⟨11, orders_270 r2 hf1 (fun k hk hs => ?_) ?_ 10 0 rfl⟩
    · rw [hce]
      show (if (th_S c).testBit k = true then bb k else o9 c b t k) ≤ mx9 (th_S c) bb k + 1 ∧ (if (th_S c).testBit k = true then bb k else o9 c b t k) ≤ f
      rw [if_pos hs]
      exact ⟨best_step hB hk hs, (hB.1.1.1 k hk hs).2⟩
    · rw [hce, best_max hf hB]
      exact ⟨fun q => absurd q (by decide), fun _ => ⟨fun q => absurd rfl q, fun _ => ⟨xb1, h w _ tr r2⟩⟩⟩
end OR2
