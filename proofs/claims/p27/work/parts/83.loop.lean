/-! the law's loop -/
section LP
theorem xj2_n {α β : Type} {rest : α → β → Prop} {tree : (α → β → Prop) → Prop} (h : ∀ J : α → β → Prop, tree J) : xj2 rest tree := h rest
theorem one_nz {P : Prop} (h : P) : (((1 : Int32) = (0 : Int32) → False) ∧ (¬ (1 : Int32) = (0 : Int32) → P)) := ⟨fun q => absurd q (by decide), fun _ => h⟩
theorem law_72 {L : Nat} {xs : Nat → Int32} (hL : L < 2 ^ 31) {P0 : Int32 → (Nat → Int64) → Int32 → (Nat → Int32) → (Nat → Int32) → (Nat → Int32) → (Nat → Int32) → (Nat → Int64) → (Nat → Nat → Int32) → (Nat → Int32) → Prop} (h : ∀ a b g d e f i j k, P0 1 a b g d e f i j k) : ∀ (d k : Nat) (land : Nat → Int64) (there : Int32) (near worn trial fits : Nat → Int32) (ways : Nat → Int64) (joined : Nat → Nat → Int32) (nb : Nat → Int32) (c t : Nat → Nat), k + d = 40 → RX land there near worn c t → q_L_law_L72 L xs P0 (d + 1) 1 (nI k) land there near worn trial fits ways joined nb := by
  intro d
  induction d with
  | zero =>
    intro k land there near worn trial fits ways joined nb c t hk r
    rw [q_L_law_L72]
    have : k = 40 := by omega
    subst this
    exact ⟨fun _ => h _ _ _ _ _ _ _ _ _, fun q => absurd (show (40 : Int32) ≤ nI 40 by decide) q⟩
  | succ d ih =>
    intro k land there near worn trial fits ways joined nb c t hk r
    rw [q_L_law_L72]
    refine ⟨fun q => absurd q (nI_ge (b := 40) (by omega) (by decide)), fun _ => ⟨fun q => absurd q (by decide), fun _ => ?_⟩⟩
    rw [show (2 : Int32) * nI k = nI (2 * k) from pI_mul 2 k, show nI (2 * k) + (1 : Int32) = nI (2 * k + 1) from nI_add _ 1, show nI k + (1 : Int32) = nI (k + 1) from nI_add k 1]
    refine at_spec hL (by omega) (fun x => at_spec hL (by omega) (fun y => paints_spec r (fun land1 th1 near1 c1 r1 => ?_)))
    refine xj2_all (fun a b => a = 1 ∧ ∀ j, j < 10 → b j = nI (ne_S c1 j)) (fun J hJ => xj1_n (fun J52 => ⟨fun q => absurd q (by decide), fun _ => looks_spec r1 (fun nb1 hN1 => ⟨fun q => absurd q (by decide), fun _ => low_spec _ (n := 10) (by decide) (by decide) (fun u hu => encloses_spec r1 hu ⟨fun q => absurd q (by decide), fun _ => hJ _ _ ⟨rfl, hN1⟩⟩)⟩)⟩)) ?_
    rintro v13 nb1 ⟨rfl, hN1⟩
    obtain ⟨a0, ha0, ea⟩ := lowI_lt (x >>> ((10 : Int32) &&& 31)) (n := 10) (by decide) (by decide)
    obtain ⟨b0, hb0, eb⟩ := lowI_lt (y >>> ((13 : Int32) &&& 31)) (n := 11) (by decide) (by decide)
    refine low_val (n := 10) (by decide) (by decide) ea (z_tintOf r1 ha0 ?_)
    refine xj2_all (fun a b => a = 1 ∧ ∃ t', RX land1 th1 near1 b c1 t') (fun J hJ => xj1_n (fun J37 => ⟨fun q => absurd q (by decide), fun _ => low_val (n := 10) (by decide) (by decide) ea (low_val (n := 11) (by decide) (by decide) eb (z_tint r1 ha0 (by omega) (fun w1 r2 => ⟨fun q => absurd rfl q, fun _ => low_val (n := 10) (by decide) (by decide) ea (z_tintOf r2 ha0 (low_val (n := 11) (by decide) (by decide) eb ?_))⟩)))⟩)) ?_
    · rw [if_pos rfl]
      refine ⟨fun q => absurd rfl q, fun _ => tints_spec r2 hN1 ⟨fun q => absurd q (by decide), fun _ => low_spec _ (n := 10) (by decide) (by decide) (fun u hu => low_spec _ (n := 10) (by decide) (by decide) (fun v hv => ?_))⟩⟩
      rw [show (1 : Int32) + nI v = nI (1 + v) from nI_add 1 v]
      exact chains_spec r2 hu (by omega) (by omega) (fun w2 r3 => ⟨fun q => absurd q (by decide), fun _ => hJ _ _ ⟨rfl, _, r3⟩⟩)
    · rintro v18 w ⟨rfl, t2, r3⟩
      refine ⟨fun q => absurd q (by decide), fun _ => ⟨fun _ => ih (k + 1) _ _ _ _ _ _ _ _ _ c1 t2 (by omega) r3, fun _ => counts_spec r3 hN1 (fun tr F ww J => ⟨fun q => absurd q (by decide), fun _ => low_spec _ (n := 2) (by decide) (by decide) (fun u hu => ?_)⟩)⟩⟩
      refine xj1_i (bI (decide (u = 0))) (fun J2 h2 => ?_) (orders_spec r3 hN1 (fun w4 t4 tr4 r4 => ⟨fun q => absurd q (by decide), fun _ => tints_spec r4 hN1 ⟨fun q => absurd q (by decide), fun _ => low_spec _ (n := 10) (by decide) (by decide) (fun u2 hu2 => low_spec _ (n := 4) (by decide) (by decide) (fun v2 hv2 => ?_))⟩⟩))
      · refine ⟨fun q => ?_, fun q => ?_⟩
        · rw [decide_eq_false (fun e => q (by rw [e]; rfl))] at h2; exact h2
        · rw [decide_eq_true ((nI_eq (b := 0) (by omega) (by decide)).mp q)] at h2; exact h2
      · rw [show (1 : Int32) + nI v2 = nI (1 + v2) from nI_add 1 v2]
        exact chains_spec r4 hu2 (by omega) (by omega) (fun w5 r5 => ⟨fun q => absurd q (by decide), fun _ => ih (k + 1) _ _ _ _ _ _ _ _ _ c1 t4 (by omega) r5⟩)
theorem rx_0 : RX (fun _ => 0) 0 (fun _ => 0) (fun _ => 0) (fun _ => 10) (fun _ => 0) := by
  have e1 : ∀ k, k < 10 → ld_S (fun _ => 10) k = 0 := by decide +kernel
  have e2 : th_S (fun _ => 10) = 0 := by decide +kernel
  have e3 : ∀ k, k < 10 → ne_S (fun _ => 10) k = 0 := by decide +kernel
  refine ⟨fun _ _ => Nat.le_refl _, fun _ _ => Nat.zero_le _, fun k hk => ?_, ?_, fun k hk => ?_, fun _ _ => rfl⟩
  · rw [e1 k hk]; rfl
  · rw [e2]; rfl
  · rw [e3 k hk]; rfl
theorem th_0 : th_S (fun _ => 10) = 0 := by decide +kernel
theorem few_0 : Few (fun _ => 10) 0 := ⟨by decide, by rw [th_0, rr_e]; decide, fun k h => absurd h (Nat.not_lt_zero k)⟩
theorem tb_0 : isTb (fun _ => 10) (fun _ => 0) 10 = true := col_tinted (m := 0) (T := fun _ => 0) ⟨fun i _ hs => (by rw [th_0, Nat.zero_testBit] at hs; cases hs), fun i j _ _ hs => (by rw [th_0, Nat.zero_testBit] at hs; cases hs)⟩
theorem law_pure : ∀ (L : Nat) (xs : Nat → Int32), L ≤ 260 → q_L_law L xs := fun L xs hL => by
  unfold q_L_law
  refine z_countries rx_0 ?_
  rw [th_0, pc_z]
  refine xj3_all (fun a _ _ => a = 1) (fun J hJ => ?_) (fun a tr F e => ?_)
  · refine xj2_n (fun J69 => ⟨fun q => absurd rfl q, fun _ => z_isTinted rx_0 ?_⟩)
    rw [tb_0]
    refine ⟨fun q => absurd q (by decide), fun _ => z_fewest rx_0 few_0 (fun tr => ⟨fun q => absurd rfl q, fun _ => z_alln rx_0 (fun F => ?_)⟩)⟩
    rw [(clq_0 (n := ne_S (fun _ => 10)) (th_lt (fun _ => 10))).mpr th_0]
    refine ⟨fun q => absurd rfl q, fun _ => z_countryAt (k := 5) (j := 5) rx_0 (by decide) (by decide) ⟨fun q => absurd cv10 q, fun _ => g_countryAt_bad rx_0 (Or.inr bad6) ⟨fun q => absurd rfl q, fun _ => hJ _ _ _ rfl⟩⟩⟩
  · subst e
    exact ⟨41, by decide, law_72 (by omega) (fun _ _ _ _ _ _ _ _ _ => rfl) 40 0 _ _ _ _ _ _ _ _ _ _ _ rfl rx_0⟩
end LP
