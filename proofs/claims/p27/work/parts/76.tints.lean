/-! tints: conflicts, tinted or not, and the least free tints agree -/
def us (N : Nat) (t : Nat → Nat) : Nat → Nat
  | 0 => 0
  | j + 1 => if N.testBit j = true then us N t j ||| 2 ^ t j else us N t j
theorem us_bit {N : Nat} {t : Nat → Nat} {v : Nat} : ∀ j, (us N t j).testBit v = true ↔ ∃ i, i < j ∧ N.testBit i = true ∧ t i = v := by
  intro j
  induction j with
  | zero =>
    rw [us, Nat.zero_testBit]
    exact ⟨fun q => (by cases q), fun ⟨i, h, _⟩ => absurd h (Nat.not_lt_zero i)⟩
  | succ j ih =>
    rw [us]
    by_cases e : N.testBit j = true
    · rw [if_pos e, orp_bit, Bool.or_eq_true, ih, decide_eq_true_eq]
      refine ⟨fun q => ?_, fun ⟨i, h1, h2, h3⟩ => ?_⟩
      · rcases q with ⟨i, h1, h2, h3⟩ | q
        · exact ⟨i, by omega, h2, h3⟩
        · exact ⟨j, by omega, e, q⟩
      · by_cases q : i = j
        · subst q; exact Or.inr h3
        · exact Or.inl ⟨i, by omega, h2, h3⟩
    · rw [if_neg e, ih]
      refine ⟨fun ⟨i, h1, h2, h3⟩ => ⟨i, by omega, h2, h3⟩, fun ⟨i, h1, h2, h3⟩ => ⟨i, ?_, h2, h3⟩⟩
      by_cases q : i = j
      · subst q; exact absurd h2 e
      · omega
theorem us_lt {N : Nat} {t : Nat → Nat} (hb : ∀ k, k < 10 → t k ≤ 10) : ∀ j, j ≤ 10 → us N t j < 2048 := by
  intro j
  induction j with
  | zero => intro _; exact (by decide : 0 < 2048)
  | succ j ih =>
    intro hj
    rw [us]
    split
    · exact or_lt (n := 11) (ih (by omega)) (Nat.pow_lt_pow_right (by decide) (by have := hb j (by omega); omega))
    · exact ih (by omega)
theorem us_taken {N : Nat} {t : Nat → Nat} {v : Nat} : (us N t 10).testBit v = true ↔ taken N t v := us_bit 10
theorem bt2_raw : ∀ h : Fin 64, ∀ l : Fin 32, ∀ k : Fin 11, decide (((nI (32 * h.val + l.val) >>> (nI k.val &&& 31)) &&& (1 : Int32)) = (1 : Int32)) = (32 * h.val + l.val).testBit k.val := by decide +kernel
theorem pI_tb2 {a k : Nat} (ha : a < 2048) (hk : k < 11) : ((nI a >>> (nI k &&& 31)) &&& (1 : Int32)) = (1 : Int32) ↔ a.testBit k = true := by
  have := bt2_raw ⟨a / 32, by omega⟩ ⟨a % 32, by omega⟩ ⟨k, hk⟩
  simp only [show 32 * (a / 32) + a % 32 = a by omega] at this
  rw [← this]
  exact decide_eq_true_iff.symm
theorem lowm_raw : ∀ f, f < 11 → ∀ v, v < 11 → (2 ^ f - 2).testBit v = decide (1 ≤ v ∧ v < f) := by decide +kernel
theorem sub2 {f : Nat} (h1 : 1 ≤ f) (h2 : f ≤ 10) : ((1 : Int32) <<< (nI f &&& 31)) - (2 : Int32) = nI (2 ^ f - 2) := by
  rw [pI_bit (by omega), show (2 : Int32) = nI 2 from rfl, pI_sub (Nat.pow_le_pow_right (n := 2) (i := 1) (j := f) (by decide) h1)]
/-- used below f, and not f: that is what 'least free' says of the bits -/
theorem lf_bits {U f : Nat} (hU : U < 2048) (h1 : 1 ≤ f) (h2 : f ≤ 10) (hf : U.testBit f = false) (hl : ∀ v, 1 ≤ v → v < f → U.testBit v = true) {A B : Prop} (h : A) : (((((nI U) >>> (nI f &&& 31)) &&& (1 : Int32)) = (1 : Int32) → B) ∧ (¬ (((nI U) >>> (nI f &&& 31)) &&& (1 : Int32)) = (1 : Int32) → ((((nI U) &&& (((1 : Int32) <<< (nI f &&& 31)) - (2 : Int32))) = (((1 : Int32) <<< (nI f &&& 31)) - (2 : Int32)) → A) ∧ (¬ ((nI U) &&& (((1 : Int32) <<< (nI f &&& 31)) - (2 : Int32))) = (((1 : Int32) <<< (nI f &&& 31)) - (2 : Int32)) → B)))) := by
  rw [pI_tb2 hU (by omega), hf, sub2 h1 h2, pI_and]
  have e : U &&& (2 ^ f - 2) = 2 ^ f - 2 := by
    refine Nat.eq_of_testBit_eq (fun v => ?_)
    rw [Nat.testBit_and]
    by_cases hv : v < 11
    · rw [lowm_raw f (by omega) v hv]
      by_cases q : 1 ≤ v ∧ v < f
      · rw [hl v q.1 q.2, Bool.true_and]
      · rw [decide_eq_false q, Bool.and_false]
    · have : (2 ^ f - 2).testBit v = false := Nat.testBit_lt_two_pow (by
        have : 2 ^ f ≤ 2 ^ v := Nat.pow_le_pow_right (by decide) (by omega)
        have : 0 < 2 ^ f := Nat.two_pow_pos f
        omega)
      rw [this, Bool.and_false]
  rw [e]
  exact ⟨fun q => (by cases q), fun _ => ⟨fun _ => h, fun q => absurd rfl q⟩⟩
section TI
variable {land : Nat → Int64} {there : Int32} {near worn : Nat → Int32} {c t : Nat → Nat}
def cB (n t : Nat → Nat) (k j : Nat) : Bool := decide (j < k) && cE2 n t k j
theorem cB_sum (n t : Nat → Nat) {k : Nat} (hk : k < 10) : ct (cB n t k) 10 = ct (cE2 n t k) k := by
  rw [ct_more (m := k) (by omega) (fun j h1 _ => by unfold cB; rw [decide_eq_false (by omega)]; rfl)]
  exact ct_cong (fun j hj => by unfold cB; rw [decide_eq_true hj]; rfl)
theorem tints_28 (r : RX land there near worn c t) {nb : Nat → Int32} (hN : ∀ a, a < 10 → nb a = nI (ne_S c a)) {k : Nat} (hk : k < 10) {m : Nat} {P0 : Int32 → Int32 → Prop} (h : P0 (nI (m + ct (cB (ne_S c) t k) 10)) (nI (us (ne_S c k) t 10))) : ∀ (d j : Nat), j + d = 10 → q_L_tints_L28 (nI k) (nI (t k)) worn nb P0 (d + 1) (nI (m + ct (cB (ne_S c) t k) j)) (nI (us (ne_S c k) t j)) (nI j) := by
  intro d
  induction d with
  | zero =>
    intro j hj
    rw [q_L_tints_L28]
    have : j = 10 := by omega
    subst this
    exact ⟨fun _ => h, fun q => absurd (show (10 : Int32) ≤ nI 10 by decide) q⟩
  | succ d ih =>
    intro j hj
    have hj10 : j < 10 := by omega
    have g := ih (j + 1) (by omega)
    have ht := r.2.1
    rw [q_L_tints_L28]
    refine ⟨fun q => absurd q (ge10 hj10), fun _ => ⟨xin_nI hk (by decide), ?_⟩⟩
    rw [nI_clamp (n := k) (by omega), hN k hk, pI_tb (ne_lt c k) hj10, show nI j + (1 : Int32) = nI (j + 1) from nI_add j 1]
    rw [ct_s, us] at g
    by_cases e : (ne_S c k).testBit j = true
    · rw [if_pos e] at g
      refine xj1_i (1 : Int32) (fun J hJ => ⟨fun q => absurd e q, fun _ => hJ⟩) ?_
      have fin : ∀ v : Nat, v = (cB (ne_S c) t k j).toNat → xl ((nI (m + ct (cB (ne_S c) t k) j)) + nI v) (fun y6 => (((1 : Int32) = (0 : Int32) → xl ((nI (us (ne_S c k) t j)) ||| (0 : Int32)) (fun y7 => q_L_tints_L28 (nI k) (nI (t k)) worn nb P0 (d + 1) y6 y7 (nI (j + 1)))) ∧ (¬ (1 : Int32) = (0 : Int32) → q0_L_tintOf (nI j) worn (fun (r8 : Int32) => xl ((nI (us (ne_S c k) t j)) ||| ((1 : Int32) <<< (r8 &&& 31))) (fun y9 => q_L_tints_L28 (nI k) (nI (t k)) worn nb P0 (d + 1) y6 y9 (nI (j + 1))))))) := fun v hv => by
        refine xl_i ⟨fun q => absurd q (by decide), fun _ => z_tintOf r hj10 (xl_i ?_)⟩
        have := ht j hj10
        rw [nI_add, pI_bit (by omega), pI_or, hv, Nat.add_assoc]
        exact g
      by_cases hc : cB (ne_S c) t k j = true
      · refine xj1_i (nI 1) (fun J hJ => xj0_u (fun J2 => ⟨fun q => absurd q (by decide), fun _ => ⟨fun q => ?_, fun _ => ⟨fun q => ?_, fun _ => z_tintOf r hj10 ⟨fun q => ?_, fun _ => hJ⟩⟩⟩⟩)) (fin 1 (by rw [hc]; rfl))
        all_goals
          unfold cB cE2 at hc
          rw [e, Bool.true_and, ← Bool.decide_and, decide_eq_true_eq] at hc
          exfalso
        · exact absurd q (nI_ge hc.1 (by omega))
        · exact hc.2.1 ((nI_le0 (by have := ht k hk; omega)).mp q)
        · exact q (by rw [hc.2.2])
      · have hc := bfalse hc
        refine xj1_i (nI 0) (fun J hJ => xj0_i (fun J2 h2 => ⟨fun _ => h2, fun _ => ⟨fun _ => h2, fun q1 => ⟨fun _ => h2, fun q2 => z_tintOf r hj10 ⟨fun _ => h2, fun q3 => ?_⟩⟩⟩⟩) hJ) (fin 0 (by rw [hc]; rfl))
        exfalso
        unfold cB cE2 at hc
        rw [e, Bool.true_and, ← Bool.decide_and] at hc
        have hjk := ht j hj10
        have hkk := ht k hk
        refine of_decide_eq_false hc ⟨Nat.lt_of_not_le fun q => q1 (nI_le q (by omega)), fun q => q2 ((nI_le0 (by omega)).mpr q), ((nI_eq (by omega) (by omega)).mp q3).symm⟩
    · rw [if_neg e] at g
      have hc : cB (ne_S c) t k j = false := by
        unfold cB cE2
        rw [bfalse e, Bool.false_and, Bool.and_false]
      rw [hc] at g
      refine xj1_i (0 : Int32) (fun J hJ => ⟨fun _ => hJ, fun q => absurd q e⟩) (xj1_i (0 : Int32) (fun J hJ => xj0_i (fun J2 h2 => ⟨fun _ => h2, fun q => absurd rfl q⟩) hJ) (xl_i ⟨fun _ => xl_i ?_, fun q => absurd rfl q⟩))
      rw [I_add0, I_or0]
      exact g
def al9 (c t : Nat → Nat) (k : Nat) : Bool := al (fun k => !(th_S c).testBit k || decide (t k ≠ 0)) k
theorem al_s (p : Nat → Bool) (n : Nat) : al p (n + 1) = (al p n && p n) := by
  rw [al]
def sm9 (c t : Nat → Nat) (k : Nat) : Nat := sm (fun k => ct (cE2 (ne_S c) t k) k) k
theorem tints_7 (r : RX land there near worn c t) {nb : Nat → Int32} (hN : ∀ a, a < 10 → nb a = nI (ne_S c a)) {P0 : Int32 → Int32 → Prop} {P1 : Prop} (h : P0 (nI (sm9 c t 10)) (bI (al9 c t 10))) : ∀ (d k : Nat), k + d = 10 → q_L_tints_L7 land near worn nb P0 P1 (d + 1) (nI (sm9 c t k)) (bI (al9 c t k)) (nI k) := by
  intro d
  induction d with
  | zero =>
    intro k hk
    rw [q_L_tints_L7]
    have : k = 10 := by omega
    subst this
    exact ⟨fun _ => h, fun q => absurd (show (10 : Int32) ≤ nI 10 by decide) q⟩
  | succ d ih =>
    intro k hk
    have hk10 : k < 10 := by omega
    have g := ih (k + 1) (by omega)
    have ht := r.2.1
    have hkk := ht k hk10
    rw [q_L_tints_L7]
    refine ⟨fun q => absurd q (ge10 hk10), fun _ => z_tintOf r hk10 ⟨11, ?_⟩⟩
    rw [show nI k + (1 : Int32) = nI (k + 1) from nI_add k 1]
    refine tints_28 r hN hk10 (m := sm9 c t k) ?_ 10 0 rfl
    rw [cB_sum (ne_S c) t hk10, show sm9 c t k + ct (cE2 (ne_S c) t k) k = sm9 c t (k + 1) from rfl]
    refine xj1_i (bI (al9 c t (k + 1))) (fun J hJ => ?_) (z_leastFree r hk10 (fun f hf => ?_))
    · unfold al9 at hJ
      rw [al_s] at hJ
      show xj0 _ _
      unfold al9
      cases ea : al (fun k => !(th_S c).testBit k || decide (t k ≠ 0)) k
      · rw [ea] at hJ
        exact xj0_i (fun J2 h2 => ⟨fun _ => h2, fun q => absurd rfl q⟩) hJ
      · rw [ea, Bool.true_and, th_bit hk10] at hJ
        by_cases e1 : ld_S c k = 0
        · rw [decide_eq_false (fun q => q e1)] at hJ
          refine xj0_u (fun J2 => ⟨fun q => absurd q (by decide), fun _ => z_area r hk10 (xj0_i (fun J3 h3 => ⟨fun _ => h3, fun q => ?_⟩) hJ)⟩)
          rw [e1, pc_z] at q
          exact absurd rfl q
        · have e2 : ¬ nI (pc (ld_S c k)) = (0 : Int32) := fun q => e1 (pc_0 (ld_lt c k) (by
            have := pc_36 (ld_lt c k)
            have := (nI_eq (b := 0) (by omega) (by decide)).mp q
            omega))
          rw [decide_eq_true e1, Bool.not_true, Bool.false_or] at hJ
          by_cases e3 : t k = 0
          · rw [decide_eq_false (fun q => q e3)] at hJ
            refine xj0_i (fun J2 h2 => ⟨fun _ => h2, fun _ => z_area r hk10 (xj0_u (fun J3 => ⟨fun q => absurd q e2, fun _ => ⟨fun _ => h2, fun q => ?_⟩⟩))⟩) hJ
            exact absurd ((nI_le0 (by omega)).mpr e3) q
          · rw [decide_eq_true e3] at hJ
            refine xj0_u (fun J2 => ⟨fun q => absurd q (by decide), fun _ => z_area r hk10 (xj0_i (fun J3 h3 => ⟨fun q => absurd q e2, fun _ => ⟨fun q => ?_, fun _ => h3⟩⟩) hJ)⟩)
            exact absurd ((nI_le0 (by omega)).mp q) e3
    · obtain ⟨f1, f2, f3, f4⟩ := hf
      refine ⟨fun q => absurd q (nI_pos (by omega)), fun _ => ⟨fun q => absurd q (nI_nlt (a := 10) hkk (by decide)), fun _ => ⟨fun q => absurd q (nI_nlt (b := 1) f1 (by omega)), fun _ => ⟨fun q => absurd q (nI_nlt (a := 10) f2 (by decide)), fun _ => ?_⟩⟩⟩⟩
      exact lf_bits (us_lt ht 10 (by decide)) f1 f2 (bfalse (fun q => f3 (us_taken.mp q))) (fun v v1 v2 => us_taken.mpr (f4 v v1 v2)) g
theorem tints_spec (r : RX land there near worn c t) {nb : Nat → Int32} (hN : ∀ a, a < 10 → nb a = nI (ne_S c a)) {P : Int32 → (Nat → Int32) → Prop} (h : P 1 worn) : q_L_tints land there near worn nb P := by
  unfold q_L_tints
  refine ⟨11, tints_7 r hN ?_ 10 0 rfl⟩
  have hlt := cfl_lt (ne_S c) t
  refine z_conflicts r ⟨fun q => absurd rfl q, fun _ => z_isTinted r ?_⟩
  have e : isTb c t 10 = (decide (cfl (ne_S c) t = 0) && al9 c t 10) := rfl
  refine xj1_i (bI (isTb c t 10)) (fun J hJ => ?_) ⟨fun q => absurd rfl q, fun _ => g_tint_bad1 (Or.inr (by decide)) ⟨fun q => absurd rfl q, fun _ => g_tint_bad2 (k := 0) (by decide) (Or.inr (by decide)) ⟨fun q => absurd rfl q, fun _ => g_leastFree_bad (Or.inl (by decide)) ⟨fun q => absurd rfl q, fun _ => ⟨xb1, h⟩⟩⟩⟩⟩
  rw [e] at hJ
  cases ea : al9 c t 10
  · rw [ea, Bool.and_false] at hJ
    exact xj0_i (fun J2 h2 => ⟨fun _ => h2, fun q => absurd rfl q⟩) hJ
  · rw [ea, Bool.and_true] at hJ
    by_cases z : cfl (ne_S c) t = 0
    · rw [decide_eq_true z] at hJ
      exact xj0_u (fun J2 => ⟨fun q => absurd q (by decide), fun _ => ⟨fun q => absurd (show nI (cfl (ne_S c) t) = 0 by rw [z]; rfl) q, fun _ => hJ⟩⟩)
    · rw [decide_eq_false z] at hJ
      refine xj0_i (fun J2 h2 => ⟨fun _ => h2, fun _ => ⟨fun _ => h2, fun q => ?_⟩⟩) hJ
      exact absurd ((nI_eq (b := 0) (a := cfl (ne_S c) t) (by omega) (by decide)).mp q) z
end TI
