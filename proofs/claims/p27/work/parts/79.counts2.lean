/-! counts -/
section CN2
variable {land : Nat → Int64} {there : Int32} {near worn trial fits : Nat → Int32} {ways : Nat → Int64} {joined : Nat → Nat → Int32} {c t : Nat → Nat}
theorem counts_25 {n : Nat → Nat} (hg : ∀ k, k < 10 → n k < 1024) {nb : Nat → Int32} (hN : ∀ a, a < 10 → nb a = nI (n a)) {P0 : Int32 → Prop} (h : P0 (nI (mo9 n 10))) : ∀ (d k : Nat), k + d = 10 → q_L_counts_L25 nb P0 (d + 1) (nI (mo9 n k)) (nI k) := by
  intro d
  induction d with
  | zero =>
    intro k hk
    rw [q_L_counts_L25]
    have : k = 10 := by omega
    subst this
    exact ⟨fun _ => h, fun q => absurd (show (10 : Int32) ≤ nI 10 by decide) q⟩
  | succ d ih =>
    intro k hk
    rw [q_L_counts_L25]
    have g := ih (k + 1) (by omega)
    have hm := mo9_le hg k (by omega)
    have hp := pc_10 (hg k (by omega))
    have hx : xin (nI k) 10 = true := xin_nI (by omega) (by decide)
    refine ⟨fun q => absurd q (ge10 (by omega)), fun _ => ⟨hx, ?_⟩⟩
    rw [show nI k + (1 : Int32) = nI (k + 1) from nI_add k 1, nI_clamp (n := k) (by omega), hN k (by omega)]
    rw [mo9] at g
    refine many_spec (hg k (by omega)) ⟨fun q => ?_, fun q => ⟨hx, many_spec (hg k (by omega)) ?_⟩⟩
    · have := (nI_leI (by omega) (by omega)).mp q
      rw [Nat.max_eq_left this] at g
      exact g
    · have : ¬ pc (n k) ≤ mo9 n k := fun a => q ((nI_leI (by omega) (by omega)).mpr a)
      rw [Nat.max_eq_right (by omega)] at g
      exact g
def bf9 (c : Nat → Nat) (k : Nat) : Nat := if k = 0 then 0 else rr (ne_S c) (k - 1) (th_S c)
theorem rr_63 {c : Nat → Nat} {k : Nat} (hk : k ≤ 10) : rr (ne_S c) k (th_S c) < 2 ^ 63 := Nat.lt_of_le_of_lt (rr_bound (n := ne_S c) hk 10 (th_S c) (Nat.le_refl _) (th_lt c)) (by decide)
theorem bit_nI {b : Prop} {i1 : Decidable b} {J : Int32 → Prop} (h : J (nI (if b then 0 else 1))) : (b → J 0) ∧ (¬ b → J 1) := ⟨fun q => by rw [if_pos q] at h; exact h, fun q => by rw [if_neg q] at h; exact h⟩
theorem counts_67 (r : RX land there near worn c t) {f : Nat} (hf : Few c f) {P0 P1 : (Nat → Int32) → (Nat → Int64) → (Nat → Nat → Int32) → Prop} (h : ∀ F w J, P0 F w J) : ∀ (d k : Nat) (F : Nat → Int32) (w : Nat → Int64) (J : Nat → Nat → Int32), k + d = 11 → q_L_counts_L67 (nI f) (nI (pc (th_S c))) there near P0 P1 (d + 1) (lN (bf9 c k)) (nI k) F w J := by
  intro d
  induction d with
  | zero =>
    intro k F w J hk
    rw [q_L_counts_L67]
    have : k = 11 := by omega
    subst this
    exact ⟨fun _ => h F w J, fun q => absurd (show (11 : Int32) ≤ nI 11 by decide) q⟩
  | succ d ih =>
    intro k F w J hk
    rw [q_L_counts_L67]
    have hk10 : k ≤ 10 := by omega
    have hR := rr_63 (c := c) hk10
    have hf1 := hf.1
    have hpos := rr_pos (gr_ne c) (th_lt c) hf.2.1 hf.2.2 k
    have hth := pc_10 (th_lt c)
    have hb : bf9 c k ≤ rr (ne_S c) k (th_S c) := by
      unfold bf9
      by_cases e : k = 0
      · rw [if_pos e]; exact Nat.zero_le _
      · rw [if_neg e]
        have := rr_up (ne_S c) (k - 1) (th_S c)
        rw [show k - 1 + 1 = k by omega] at this
        exact this
    have hbf : bf9 c (k + 1) = rr (ne_S c) k (th_S c) := if_neg (Nat.succ_ne_zero k)
    refine ⟨fun q => absurd q (nI_ge (b := 11) (by omega) (by decide)), fun _ => z_tintings r hk10 (fun F2 w2 => z_pairs r hk10 (fun J2 => ⟨fun q => absurd (pcmp.mpr rfl) q, fun _ => ?_⟩))⟩
    have next : q_L_counts_L67 (nI f) (nI (pc (th_S c))) there near P0 P1 (d + 1) (lN (rr (ne_S c) k (th_S c))) (nI (k + 1)) F2 w2 J2 := by
      rw [← hbf]
      exact ih (k + 1) F2 w2 J2 (by omega)
    rw [show nI k + (1 : Int32) = nI (k + 1) from nI_add k 1, lg_cmp_lt, lN_ltI hR (Nat.lt_of_le_of_lt hb hR), lg_cmp_le, show (0 : Int64) = lN 0 from rfl, lN_leI hR (by decide), nI_ltI (by omega) (by omega), nI_le0 (by omega), nI_le0 (by omega)]
    refine xj1_i (nI (if f ≤ k then 1 else 0)) (fun J3 h3 => ?_) (xj1_i (nI (if f ≤ k then 1 else 0)) (fun J3 h3 => ?_) ⟨fun q => absurd rfl q, fun _ => ⟨fun q => absurd q (Nat.not_lt_of_le hb), fun _ => ⟨fun _ => next, fun q1 => ⟨fun _ => next, fun q2 => ?_⟩⟩⟩⟩)
    · by_cases e : f ≤ k
      · rw [if_pos e] at h3; exact ⟨fun q => absurd (Nat.le_zero.mp q) (hpos.mpr e), fun _ => h3⟩
      · rw [if_neg e] at h3; exact ⟨fun _ => h3, fun q => absurd (hpos.mp (fun z => q (by rw [z]; exact Nat.le_refl _))) e⟩
    · by_cases e : f ≤ k
      · rw [if_pos e] at h3; exact ⟨fun q => absurd q (by omega), fun _ => h3⟩
      · rw [if_neg e] at h3; exact ⟨fun _ => h3, fun q => absurd q (by omega)⟩
    · have hne : th_S c ≠ 0 := fun z => q2 (by rw [z, pc_z])
      obtain ⟨v, hv, sv⟩ := (set_ne0 (n := 10) (th_lt c)).mp hne
      obtain ⟨m, hm⟩ := rr_div (n := ne_S c) (t := k - 1) hv sv
      rw [show k - 1 + 1 = k by omega] at hm
      rw [hm] at hR next ⊢
      obtain ⟨r1, r2⟩ := rem_L (k := k) (m := m) (by omega) (by omega) hR
      exact ⟨r1, fun _ => next, fun q => absurd (pcmp.mpr r2) q⟩
theorem J_eq0 {a : Nat} (ha : a < 2 ^ 31) {J : Int32 → Prop} (h : J (nI (if a = 0 then 1 else 0))) : (¬ nI a = (0 : Int32) → J 0) ∧ (nI a = (0 : Int32) → J 1) := by
  refine ⟨fun q => ?_, fun q => ?_⟩
  · rw [if_neg (fun e => q (by rw [e]; rfl))] at h; exact h
  · rw [if_pos ((nI_eq (b := 0) ha (by decide)).mp q)] at h; exact h
theorem counts_spec (r : RX land there near worn c t) {nb : Nat → Int32} (hN : ∀ a, a < 10 → nb a = nI (ne_S c a)) {P : Int32 → (Nat → Int32) → (Nat → Int32) → (Nat → Int64) → (Nat → Nat → Int32) → Prop} (h : ∀ tr F w J, P 1 tr F w J) : q_L_counts there near trial fits ways joined nb P := by
  obtain ⟨f, hf⟩ := few_c c
  have g := gr_ne c
  have hf1 := hf.1
  have hth := pc_10 (th_lt c)
  have hmo := mo9_le g.1 10 (Nat.le_refl _)
  have hq := mq_le (n := ne_S c) (th := th_S c) (s := 1024) (Nat.le_refl _)
  have a1 := clq_few g (th_lt c) hf.2.1 1024 (Nat.le_refl _)
  have a2 := few_min hf.2.2 (few_there g (th_lt c))
  have a3 := few_min hf.2.2 (few_mo g (th_lt c))
  have a4 := clq_mo (n := ne_S c) (th := th_S c) 1024 (Nat.le_refl _)
  have a5 := clq_0 (n := ne_S c) (th_lt c)
  have e0 : pc (th_S c) = 0 ↔ th_S c = 0 := ⟨fun q => pc_0 (th_pc c) (by omega), fun q => by rw [q, pc_z]⟩
  have a6 : f = 0 ↔ pc (th_S c) = 0 := by
    rw [e0]
    refine ⟨fun q => ?_, fun q => ?_⟩
    · refine Classical.byContradiction fun hn => hf.2.1 ?_
      rw [q]
      exact rr_0 hn
    · have : rr (ne_S c) 0 (th_S c) ≠ 0 := by rw [q, rr_e]; decide
      have := few_min hf.2.2 this
      omega
  unfold q_L_counts
  refine z_fewest r hf (fun tr => z_alln r (fun F => z_countries r ⟨11, ?_⟩))
  refine counts_25 g.1 hN ?_ 10 0 rfl
  refine ⟨12, counts_67 r hf (fun F w J => ?_) 11 0 F ways joined rfl⟩
  rw [show nI (mo9 (ne_S c) 10) + (1 : Int32) = nI (mo9 (ne_S c) 10 + 1) from nI_add _ 1]
  refine ⟨fun q => absurd q (nI_nlt a1 (by omega)), fun _ => ⟨fun q => absurd q (nI_nlt a2 (by omega)), fun _ => ⟨fun q => absurd q (nI_nlt a3 (by omega)), fun _ => ?_⟩⟩⟩
  refine xj1_i _ (fun J3 h3 => J_eq0 (a := mq (ne_S c) (th_S c) 1024) (by omega) h3) (xj1_i _ (fun J3 h3 => J_eq0 (a := pc (th_S c)) (by omega) h3) ⟨fun q => ?_, fun _ => ⟨fun q => absurd q (nI_nlt a4 (by omega)), fun _ => ?_⟩⟩)
  · refine absurd ?_ q
    by_cases e : th_S c = 0
    · rw [if_pos (a5.mpr e), if_pos (e0.mpr e)]
    · rw [if_neg (fun z => e (a5.mp z)), if_neg (fun z => e (e0.mp z))]
  refine xj1_i _ (fun J3 h3 => J_eq0 (a := pc (th_S c)) (by omega) h3) (xj1_i _ (fun J3 h3 => J_eq0 (a := f) (by omega) h3) ⟨fun q => ?_, fun _ => ?_⟩)
  · refine absurd ?_ q
    by_cases e : f = 0
    · rw [if_pos e, if_pos (a6.mp e)]
    · rw [if_neg e, if_neg (fun z => e (a6.mpr z))]
  exact g_tintings_bad (Or.inr (by decide)) ⟨fun q => absurd (pcmp.mpr rfl) q, fun _ => g_pairs_bad (Or.inl (by decide)) ⟨fun q => absurd (pcmp.mpr rfl) q, fun _ => ⟨xb1, h tr F w J⟩⟩⟩
end CN2
