/-! the pure side: paintBlock -/
theorem xj1_u {α : Type} {rest : α → Prop} {tree : (α → Prop) → Prop} (h : ∀ J : α → Prop, (∀ a, J a) → tree J) (r : ∀ a, rest a) : xj1 rest tree := h rest r
theorem xj0_t {rest : Prop} {tree : Prop → Prop} (h : ∀ J : Prop, J → tree J) (r : rest) : xj0 rest tree := h rest r
theorem d6_raw : ∀ k, k < 36 → nI k / (6 : Int32) = nI (k / 6) ∧ nI k - nI k / (6 : Int32) * (6 : Int32) = nI (k % 6) := by decide +kernel
def pbs (c : Nat → Nat) (b : Nat → Bool) (v n : Nat) : Nat := ct (fun i => b i && decide (c i ≠ v)) n
theorem pbs_le (c : Nat → Nat) (b : Nat → Bool) (v n : Nat) : pbs c b v n ≤ n := ct_le _ _
theorem I_add0 (n : Nat) : nI n + (0 : Int32) = nI n := nI_add n 0
def goodX (p q p2 q2 : Int32) : Prop := ∃ k j k2 j2, k < 6 ∧ j < 6 ∧ k2 < 6 ∧ j2 < 6 ∧ p = nI k ∧ q = nI j ∧ p2 = nI k2 ∧ q2 = nI j2
/-- the cells of a country or of the sea, for the class -/
theorem sea_L {c : Nat → Nat} {land : Nat → Int64} (hl : ∀ k, k < 10 → land k = lN (ld_S c k)) (hb : ∀ i, i < 36 → c i ≤ 10) {P0 : Int64 → Prop} (h : P0 (lN (ld_S c 10))) : ∀ (d k : Nat), k + d = 10 → q_X0_cellsOf_L24 land P0 (d + 1) (lN (so (fun i => decide (k ≤ c i)) 36)) (nI k) := by
  intro d
  induction d with
  | zero =>
    intro k hk
    have : k = 10 := by omega
    subst this
    rw [q_X0_cellsOf_L24]
    refine ⟨fun _ => ?_, fun q => absurd (by decide) q⟩
    unfold ld_S at h
    rw [so_cong (q := fun i => decide (c i = 10)) (fun i hi => decide_eq_decide.mpr (by have := hb i hi; omega))]
    exact h
  | succ d ih =>
    intro k hk
    rw [q_X0_cellsOf_L24]
    refine ⟨fun q => absurd q (ge10 (by omega)), fun _ => ⟨xin_nI (by omega) (by decide), xl_i ?_⟩⟩
    rw [nI_clamp (n := k) (by omega), hl k (by omega), pL_mi, nI_1]
    have e : mi (so (fun i => decide (k ≤ c i)) 36) (ld_S c k) = so (fun i => decide (k + 1 ≤ c i)) 36 := by
      refine set_eq (n := 36) (mi_lt (so_lt _ _)) (so_lt _ _) (fun i hi => ?_)
      rw [mi_bit, so_bit, so_bit, ld_bit hi, decide_eq_true hi, Bool.true_and, Bool.true_and, ← decide_not, ← Bool.decide_and]
      exact decide_eq_decide.mpr (by omega)
    rw [e]
    exact ih (k + 1) (by omega)
theorem cellsOf_spec {c : Nat → Nat} {land : Nat → Int64} (hl : ∀ k, k < 10 → land k = lN (ld_S c k)) (hb : ∀ i, i < 36 → c i ≤ 10) {v : Nat} (hv : v ≤ 10) {P : Int64 → Prop} (h : P (lN (ld_S c v))) : q_X0_cellsOf (cv v) land P := by
  unfold q_X0_cellsOf
  rcases Nat.lt_or_ge v 10 with hv2 | hv2
  · rw [cv_n hv2]
    refine xj0_u fun J => ⟨fun q => absurd q (nI_pos (by omega)), fun _ => ⟨fun q => absurd q (ge10 hv2), fun _ => ⟨xin_nI hv2 (by decide), ?_⟩⟩⟩
    rw [nI_clamp (n := v) (by omega), hl v hv2]
    exact h
  · have e : v = 10 := by omega
    subst e
    refine xj0_i (fun J hJ => ⟨fun _ => hJ, fun q => absurd (by decide) q⟩) ⟨11, ?_⟩
    have := sea_L hl hb h 10 0 rfl
    have e : so (fun i => decide (0 ≤ c i)) 36 = cM := by
      refine set_eq (n := 36) (so_lt _ _) cM_lt (fun i hi => ?_)
      rw [so_bit, cM_bit, decide_eq_true hi, Bool.true_and, decide_eq_true (Nat.zero_le _)]
    rw [e, ← cM_eq] at this
    exact this
theorem X0_pb_a {c : Nat → Nat} {land : Nat → Int64} {near : Nat → Int32} (hl : ∀ k, k < 10 → land k = lN (ld_S c k)) (hb : ∀ i, i < 36 → c i ≤ 10) {p q p2 q2 w : Int32} {P : Int32 → (Nat → Int64) → Int32 → (Nat → Int32) → Prop} {T : String → Prop} (hT1 : (badX p ∨ badX q) ∨ (badX p2 ∨ badX q2) → T "java/lang/IndexOutOfBoundsException") (hT2 : ∀ k j k2 j2, k < 6 → j < 6 → k2 < 6 → j2 < 6 → p = nI k → q = nI j → p2 = nI k2 → q2 = nI j2 → (badP w ∨ nI k2 < nI k ∨ nI j2 < nI j) → T "java/lang/IllegalArgumentException") (hP : ∀ k j k2 j2 v, k < 6 → j < 6 → k2 < 6 → j2 < 6 → v ≤ 10 → k ≤ k2 → j ≤ j2 → p = nI k → q = nI j → p2 = nI k2 → q2 = nI j2 → w = cv v → ∀ land' near', (∀ l, l < 10 → land' l = lN (ld_S (pt c (bk k j k2 j2) v) l)) → (∀ l, l < 10 → near' l = nI (ne_S (pt c (bk k j k2 j2) v) l)) → P (nI (pbs c (bk k j k2 j2) v 36)) land' (nI (th_S (pt c (bk k j k2 j2) v))) near') : q_X0_paintBlock p q p2 q2 w land near P T := by
  unfold q_X0_paintBlock
  rcases allX p with hp | ⟨k, hk, rfl⟩
  · exact chkX_bad (Or.inl hp) (hT1 (Or.inl (Or.inl hp)))
  rcases allX q with hq | ⟨j, hj, rfl⟩
  · exact chkX_bad (Or.inr hq) (hT1 (Or.inl (Or.inr hq)))
  refine chkX_ok hk hj ?_
  rcases allX p2 with hp | ⟨k2, hk2, rfl⟩
  · exact chkX_bad (Or.inl hp) (hT1 (Or.inr (Or.inl hp)))
  rcases allX q2 with hq | ⟨j2, hj2, rfl⟩
  · exact chkX_bad (Or.inr hq) (hT1 (Or.inr (Or.inr hq)))
  refine chkX_ok hk2 hj2 ?_
  rcases allP w with hw | ⟨v, hv, rfl⟩
  · exact chkP_bad hw (hT2 k j k2 j2 hk hj hk2 hj2 rfl rfl rfl rfl (Or.inl hw))
  refine chkP_ok hv ⟨fun z => hT2 k j k2 j2 hk hj hk2 hj2 rfl rfl rfl rfl (Or.inr (Or.inl z)), fun z => ?_⟩
  rw [nI_ltI (by omega) (by omega)] at z
  rw [nI_leI (by omega) (by omega)]
  refine ⟨fun z2 => ?_, fun z2 => hT2 k j k2 j2 hk hj hk2 hj2 rfl rfl rfl rfl (Or.inr (Or.inr (nI_lt (by omega) (by omega))))⟩
  refine block_spec (by omega) hk2 z2 hj2 (fun a ha hab => cellsOf_spec hl hb hv ?_)
  rw [pL_mi]
  refine J13_spec (mi_lt ha) ?_
  have e : pc (mi a (ld_S c v)) = pbs c (bk k j k2 j2) v 36 := by
    rw [pc_n (n := 36) (mi_lt ha) (by decide)]
    refine ct_cong (fun i hi => ?_)
    rw [mi_bit, ld_bit hi, hab i hi, ← decide_not]
  rw [e]
  exact cover_spec hl ha hab hv (fun land' near' h1 h2 => hP k j k2 j2 v hk hj hk2 hj2 hv (by omega) z2 rfl rfl rfl rfl rfl land' near' h1 h2)
