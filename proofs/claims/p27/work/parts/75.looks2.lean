/-! looks, its second half -/
section LO2
variable {land : Nat → Int64} {there : Int32} {near worn : Nat → Int32} {c t : Nat → Nat}
theorem ar9_pc (c : Nat → Nat) (a : Nat) : ar9 c 36 a = pc (ld_S c a) := by
  rw [pc_n (ld_lt c a) (by decide)]
  exact ct_cong (fun k hk => (ld_bit hk).symm)
theorem looks_441 (r : RX land there near worn c t) {nb bo re : Nat → Int32} (hL : LK c 144 nb bo re) {k : Nat} (hk : k < 10) {P0 P1 : Prop} (h : P0) : ∀ (d o : Nat), o + d = 10 → q_L_looks_L441 (nI k) land bo re P0 P1 (d + 1) (nI o) := by
  intro d
  induction d with
  | zero =>
    intro o ho
    rw [q_L_looks_L441]
    have : o = 10 := by omega
    subst this
    exact ⟨fun _ => h, fun q => absurd (show (10 : Int32) ≤ nI 10 by decide) q⟩
  | succ d ih =>
    intro o ho
    rw [q_L_looks_L441]
    refine ⟨fun q => absurd q (ge10 (by omega)), fun _ => z_border r hk (by omega) ?_⟩
    rw [show nI o + (1 : Int32) = nI (o + 1) from nI_add o 1]
    refine xj1_i (nI (bval c k o)) (fun J hJ => ⟨fun q => ?_, fun q => ?_⟩) ⟨fun _ => ih (o + 1) (by omega), fun q => absurd rfl q⟩
    · have h5 : 5 ≤ k := Nat.le_of_not_lt fun h => nI_ge (b := 5) h (by decide) q
      rw [show nI k - (5 : Int32) = nI (k - 5) from pI_sub (b := 5) h5, show (10 : Int32) * nI (k - 5) = nI (10 * (k - 5)) from pI_mul 10 _, nI_add, nI_clamp (by omega), hL.2.2 (k - 5) o (by omega) (by omega), show k - 5 + 5 = k by omega, Qn_bval (by omega)]
      exact ⟨xin_nI (by omega) (by decide), hJ⟩
    · have h5 : k < 5 := Nat.lt_of_not_le fun h => q (nI_le (a := 5) (b := k) h (by omega))
      rw [show (10 : Int32) * nI k = nI (10 * k) from pI_mul 10 _, nI_add, nI_clamp (by omega), hL.2.1 k o (by omega) (by omega), Qn_bval (by omega)]
      exact ⟨xin_nI (by omega) (by decide), hJ⟩
def tn9 (c : Nat → Nat) (k : Nat) : Nat := ct (fun i => decide (ld_S c i ≠ 0)) k
theorem tn9_pc (c : Nat → Nat) : tn9 c 10 = pc (th_S c) := by
  rw [pc_n (n := 10) (th_lt c) (by decide)]
  exact ct_cong (fun k hk => (th_bit hk).symm)
theorem nI_le0 {n : Nat} (hn : n < 2 ^ 31) : nI n ≤ (0 : Int32) ↔ n = 0 := by
  refine ⟨fun q => ?_, fun q => by rw [q]; decide⟩
  exact Nat.eq_zero_of_not_pos fun h => nI_nle h hn q
theorem looks_271 (r : RX land there near worn c t) {nb ar bo re : Nat → Int32} (hL : LK c 144 nb bo re) (hA : ∀ a, a < 10 → ar a = nI (pc (ld_S c a))) {P0 : Int32 → Prop} {P1 P2 : Prop} (h : P0 (nI (tn9 c 10))) : ∀ (d k : Nat), k + d = 10 → q_L_looks_L271 land near nb ar bo re P0 P1 P2 (d + 1) (nI (tn9 c k)) (nI k) := by
  intro d
  induction d with
  | zero =>
    intro k hk
    rw [q_L_looks_L271]
    have : k = 10 := by omega
    subst this
    exact ⟨fun _ => h, fun q => absurd (show (10 : Int32) ≤ nI 10 by decide) q⟩
  | succ d ih =>
    intro k hk
    have hk10 : k < 10 := by omega
    rw [q_L_looks_L271]
    have hx : xin (nI k) 10 = true := xin_nI hk10 (by decide)
    refine ⟨fun q => absurd q (ge10 (by omega)), fun _ => ⟨hx, ?_⟩⟩
    rw [show nI k + (1 : Int32) = nI (k + 1) from nI_add k 1, nI_clamp (n := k) (by omega), hA k hk10, hL.1 k hk10, Nn_end]
    have g := ih (k + 1) (by omega)
    obtain ⟨f1, f2, f3, f4, f5, f6⟩ := pieces_facts (ld_lt c k)
    have fp := pc_36 (ld_lt c k)
    have e1 : tn9 c (k + 1) = tn9 c k + (if pc (ld_S c k) = 0 then 0 else 1) := by
      unfold tn9
      rw [ct_s]
      congr 1
      by_cases e : pc (ld_S c k) = 0
      · rw [if_pos e, decide_eq_false (fun q => q (pc_0 (ld_lt c k) (by omega)))]; rfl
      · have hne : ld_S c k ≠ 0 := fun q => e (by rw [q]; exact pc_z)
        rw [if_neg e, decide_eq_true hne]; rfl
    generalize hA9 : pc (ld_S c k) = A at *
    generalize hC9 : cp 36 (ld_S c k) = C at *
    generalize hL9 : lp 36 0 (ld_S c k) = Lp at *
    rw [nI_le0 (n := A) (by omega)]
    have hmul : Lp * C ≤ 36 * 36 := Nat.mul_le_mul (by omega) (by omega)
    refine xj1_i (nI (if A = 0 then 0 else 1)) (fun J hJ => ?_) (xl_i ?_)
    · by_cases e : A = 0
      · rw [if_pos e] at hJ; exact ⟨fun _ => hJ, fun q => absurd e q⟩
      · rw [if_neg e] at hJ; exact ⟨fun q => absurd q e, fun _ => hJ⟩
    rw [show nI (tn9 c k) + nI (if A = 0 then 0 else 1) = nI (tn9 c (k + 1)) by rw [nI_add, e1]]
    refine z_area r hk10 ?_
    rw [hA9]
    refine ⟨hx, fun q => absurd rfl q, fun _ => z_neighbours r hk10 ⟨hx, many_spec (ne_lt c k) ⟨fun q => absurd rfl q, fun _ => z_pieces r hk10 ⟨hx, ?_⟩⟩⟩⟩
    rw [hC9]
    refine xj1_i (nI (if A = 0 then 0 else 1)) (fun J hJ => ?_) ⟨fun q => ?_, fun _ => z_pieces r hk10 ⟨hx, ?_⟩⟩
    · by_cases e : A = 0
      · rw [if_pos e] at hJ; exact ⟨fun _ => hJ, fun q => absurd e q⟩
      · rw [if_neg e] at hJ; exact ⟨fun q => absurd q e, fun _ => hJ⟩
    · exfalso
      by_cases e : A = 0
      · rw [if_pos e] at q; exact nI_nlt (b := 0) (Nat.zero_le _) (by omega) q
      · rw [if_neg e] at q; exact nI_nlt (b := 1) (f2 (by omega)) (by omega) q
    rw [hC9]
    refine ⟨fun q => absurd q (nI_nlt f1 (by omega)), fun _ => z_largest r hk10 (z_pieces r hk10 ⟨hx, ?_⟩)⟩
    rw [hL9, hC9, pI_mul]
    refine ⟨fun q => absurd q (nI_nlt f3 (by omega)), fun _ => z_largest r hk10 (z_pieces r hk10 ⟨hx, ?_⟩)⟩
    rw [hL9, hC9, nI_add, show nI A + (1 : Int32) = nI (A + 1) from nI_add A 1]
    refine xj0_i (fun J hJ => ⟨fun _ => hJ, fun q => ⟨hx, fun q2 => ?_, fun _ => hJ⟩⟩) ⟨hx, ?_⟩
    · exfalso
      have : 0 < A := (nI_ltI (a := 0) (by decide) (by omega)).mp q2
      exact q (nI_le (f4 this) (by omega))
    refine xj1_i (nI (if A = 0 then 1 else 0)) (fun J hJ => ?_) (z_largest r hk10 ?_)
    · by_cases e : A = 0
      · rw [if_pos e] at hJ; exact ⟨fun q => absurd (by rw [e]; rfl) q, fun _ => hJ⟩
      · rw [if_neg e] at hJ; exact ⟨fun _ => hJ, fun q => absurd ((nI_eq (b := 0) (by omega) (by decide)).mp q) e⟩
    rw [hL9]
    refine xj1_i (nI (if A = 0 then 1 else 0)) (fun J hJ => ?_) ⟨fun _ => ⟨11, looks_441 r hL hk10 g 10 0 rfl⟩, fun q => absurd rfl q⟩
    by_cases e : A = 0
    · rw [if_pos e] at hJ; exact ⟨fun q => absurd (by rw [f5.mp e]; rfl) q, fun _ => hJ⟩
    · rw [if_neg e] at hJ; exact ⟨fun _ => hJ, fun q => absurd (f5.mpr ((nI_eq (b := 0) (by omega) (by decide)).mp q)) e⟩
theorem looks_19 {P0 : (Nat → Int32) → Prop} (h : ∀ nb, (∀ a, a < 10 → nb a = 0) → P0 nb) : ∀ (d k : Nat) (nb : Nat → Int32), k + d = 10 → (∀ a, a < k → nb a = 0) → q_L_looks_L19 P0 (d + 1) (nI k) nb := by
  intro d
  induction d with
  | zero =>
    intro k nb hk hb
    rw [q_L_looks_L19]
    have : k = 10 := by omega
    subst this
    exact ⟨fun _ => h nb hb, fun q => absurd (show (10 : Int32) ≤ nI 10 by decide) q⟩
  | succ d ih =>
    intro k nb hk hb
    rw [q_L_looks_L19]
    refine ⟨fun q => absurd q (ge10 (by omega)), fun _ => ⟨xin_nI (by omega) (by decide), ?_⟩⟩
    rw [show nI k + (1 : Int32) = nI (k + 1) from nI_add k 1, nI_clamp (by omega)]
    refine ih (k + 1) _ (by omega) (fun a ha => ?_)
    by_cases e : a = k
    · subst e
      exact upI_s
    · rw [upI_n e]; exact hb a (by omega)
theorem looks_spec (r : RX land there near worn c t) {nb : Nat → Int32} {P : Int32 → (Nat → Int32) → Prop} (h : ∀ nb', (∀ a, a < 10 → nb' a = nI (ne_S c a)) → P 1 nb') : q_L_looks land there near nb P := by
  unfold q_L_looks
  refine ⟨11, looks_19 (fun nb0 h0 => ⟨37, looks_40 r (fun nb1 ar bo re hL hA => ⟨11, ?_⟩) 36 0 nb0 (fun _ => 0) (fun _ => 0) (fun _ => 0) rfl ⟨fun a ha => ?_, fun a o _ _ => rfl, fun a o _ _ => rfl⟩ (fun a _ => rfl)⟩) 10 0 nb rfl (fun a ha => absurd ha (Nat.not_lt_zero a))⟩
  · rw [h0 a ha]
    show (0 : Int32) = nI (Nn c 0 a)
    have : Nn c 0 a = 0 := (set_zero (n := 10) (so_lt _ 10)).mpr (fun k hk => by
      rw [so_bit, decide_eq_true hk, Bool.true_and]
      exact decide_eq_false (fun q => q rfl))
    rw [this]; rfl
  · refine looks_271 r hL (fun a ha => (hA a ha).trans (by rw [ar9_pc])) ?_ 10 0 rfl
    have hN : ∀ a, a < 10 → nb1 a = nI (ne_S c a) := fun a ha => by rw [hL.1 a ha, Nn_end]
    rw [tn9_pc]
    refine z_countries r ⟨fun q => absurd rfl q, fun _ => g_area_bad (Or.inr (by decide)) ⟨fun q => absurd rfl q, fun _ => g_border_bad r (Or.inr (Or.inl (by decide))) ⟨fun q => absurd rfl q, fun _ => g_pieces_bad (Or.inl (by decide)) ⟨fun q => absurd rfl q, fun _ => ⟨xb1, h nb1 hN⟩⟩⟩⟩⟩
end LO2
