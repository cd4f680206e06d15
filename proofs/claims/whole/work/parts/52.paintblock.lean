/-! the pure side: paintBlock -/
theorem xj1_u {α : Type} {rest : α → Prop} {tree : (α → Prop) → Prop} (h : ∀ J : α → Prop, (∀ a, J a) → tree J) (r : ∀ a, rest a) : xj1 rest tree := h rest r
theorem xj0_t {rest : Prop} {tree : Prop → Prop} (h : ∀ J : Prop, J → tree J) (r : rest) : xj0 rest tree := h rest r
theorem d6_raw : ∀ k, k < 36 → nI k / (6 : Int32) = nI (k / 6) ∧ nI k - nI k / (6 : Int32) * (6 : Int32) = nI (k % 6) := by decide +kernel
theorem inN {k a b : Nat} (hk : k < 2 ^ 31) (ha : a < 2 ^ 31) (hb : b < 2 ^ 31) {P : Int32 → Prop} (h1 : a ≤ k → k ≤ b → P 1) (h0 : ¬ (a ≤ k ∧ k ≤ b) → P 0) : q_X1_in (nI k) (nI a) (nI b) P := by
  by_cases e : a ≤ k ∧ k ≤ b
  · exact in_ok (nI_nlt e.1 hk) (nI_nlt e.2 hb) (h1 e.1 e.2)
  · refine in_bad ?_ (h0 e)
    by_cases z : a ≤ k
    · exact Or.inr (nI_lt (by omega) (by omega))
    · exact Or.inl (nI_lt (by omega) (by omega))
def pbs (c : Nat → Nat) (b : Nat → Bool) (v n : Nat) : Nat := ct (fun i => b i && decide (c i ≠ v)) n
theorem pbs_le (c : Nat → Nat) (b : Nat → Bool) (v n : Nat) : pbs c b v n ≤ n := ct_le _ _
theorem I_add0 (n : Nat) : nI n + (0 : Int32) = nI n := nI_add n 0
theorem X1_pb_L {k1 j1 k2 j2 v : Nat} (hk1 : k1 < 6) (hj1 : j1 < 6) (hk2 : k2 < 6) (hj2 : j2 < 6) (hv : v ≤ 10) {c : Nat → Nat} (hb : ∀ i, i < 36 → c i ≤ 10) {P0 : Int32 → (Nat → Int32) → Prop} (h : ∀ cel', (∀ i, i < 36 → cel' i = cv (pt c (bk k1 j1 k2 j2) v i)) → P0 (nI (pbs c (bk k1 j1 k2 j2) v 36)) cel') : ∀ (d k : Nat) (cel : Nat → Int32), k + d = 36 → (∀ i, i < 36 → cel i = cv (if i < k then pt c (bk k1 j1 k2 j2) v i else c i)) → q_X1_paintBlock_L72 (nI k1) (nI j1) (nI k2) (nI j2) (cv v) P0 (d + 1) (nI (pbs c (bk k1 j1 k2 j2) v k)) (nI k) cel := by
  intro d
  induction d with
  | zero =>
    intro k cel hk e
    have : k = 36 := by omega
    subst this
    rw [q_X1_paintBlock_L72]
    refine ⟨fun _ => h cel (fun i hi => ?_), fun q => absurd (by decide) q⟩
    rw [e i hi, if_pos hi]
  | succ d ih =>
    intro k cel hk e
    have hk36 : k < 36 := by omega
    rw [q_X1_paintBlock_L72]
    refine ⟨fun q => absurd q (ge36 (by omega)), fun _ => ?_⟩
    rw [(d6_raw k hk36).2, (d6_raw k hk36).1, nI_1]
    have stay : bk k1 j1 k2 j2 k = false → q_X1_paintBlock_L72 (nI k1) (nI j1) (nI k2) (nI j2) (cv v) P0 (d + 1) (nI (pbs c (bk k1 j1 k2 j2) v k)) (nI (k + 1)) cel := fun hf => by
      have := ih (k + 1) cel (by omega) (fun i hi => by
        rw [e i hi]
        by_cases q : i < k
        · rw [if_pos q, if_pos (by omega)]
        · rw [if_neg q]
          by_cases z : i = k
          · subst z; rw [if_pos (by omega)]; unfold pt; rw [hf]; rfl
          · rw [if_neg (by omega)])
      have e2 : pbs c (bk k1 j1 k2 j2) v (k + 1) = pbs c (bk k1 j1 k2 j2) v k := by
        unfold pbs
        rw [ct, hf, Bool.false_and, if_neg (by decide), Nat.add_zero]
      rw [e2] at this
      exact this
    refine inN (by omega) (by omega) (by omega) (fun a1 a2 => ⟨fun q => absurd q (by decide), fun _ => inN (by omega) (by omega) (by omega) (fun a3 a4 => ⟨fun q => absurd q (by decide), fun _ => ?_⟩) (fun hf => ⟨fun _ => xl_i ?_, fun q => absurd rfl q⟩)⟩) (fun hf => ⟨fun _ => xl_i ?_, fun q => absurd rfl q⟩)
    · have hbk : bk k1 j1 k2 j2 k = true := decide_eq_true ⟨a1, a2, a3, a4⟩
      have ek := e k hk36
      rw [if_neg (Nat.lt_irrefl k)] at ek
      refine X1_paints_spec hk36 (hb k hk36) hv ek (xl_i ?_)
      rw [nI_add]
      have := ih (k + 1) (upd cel k (cv v)) (by omega) (fun i hi => by
        by_cases z : i = k
        · subst z; rw [upI_s, if_pos (by omega)]; unfold pt; rw [hbk]; rfl
        · rw [upI_n z, e i hi]
          by_cases q : i < k
          · rw [if_pos q, if_pos (by omega)]
          · rw [if_neg q, if_neg (by omega)])
      have e2 : pbs c (bk k1 j1 k2 j2) v (k + 1) = pbs c (bk k1 j1 k2 j2) v k + (if c k = v then 0 else 1) := by
        unfold pbs
        rw [ct, hbk, Bool.true_and]
        by_cases z : c k = v
        · rw [if_pos z, if_neg (by rw [decide_eq_true_iff]; omega)]
        · rw [if_neg z, if_pos (by rw [decide_eq_true_iff]; exact z)]
      rw [e2] at this
      exact this
    · rw [I_add0]; exact stay (decide_eq_false (by omega))
    · rw [I_add0]; exact stay (decide_eq_false (by omega))
def goodX (p q p2 q2 : Int32) : Prop := ∃ k j k2 j2, k < 6 ∧ j < 6 ∧ k2 < 6 ∧ j2 < 6 ∧ p = nI k ∧ q = nI j ∧ p2 = nI k2 ∧ q2 = nI j2
theorem pb_fst_bad {p q p2 q2 : Int32} (h : (badX p ∨ badX q) ∨ (badX p2 ∨ badX q2)) {P : Int32 → Prop} (hp : P 0) {Q : Int32 → Prop → Prop} : q_X1_isCell p q (fun (r1 : Int32) => xj1 P (fun (J2 : Int32 → Prop) => xj0 (J2 (0 : Int32)) (fun (J21 : Prop) => ((r1 = (0 : Int32) → J21) ∧ (¬ r1 = (0 : Int32) → q_X1_isCell p2 q2 (fun (r22 : Int32) => ((r22 = (0 : Int32) → J21) ∧ (¬ r22 = (0 : Int32) → J2 (1 : Int32))))))))) := by
  by_cases h1 : badX p ∨ badX q
  · exact isX_bad h1 (xj1_i 0 (fun J hJ => xj0_i (fun J2 hJ2 => ⟨fun _ => hJ2, fun q => absurd rfl q⟩) hJ) hp)
  · have h2 : badX p2 ∨ badX q2 := by
      rcases h with h | h
      · exact absurd h h1
      · exact h
    rcases allX p with hp1 | ⟨k, hk, rfl⟩
    · exact absurd (Or.inl hp1) h1
    rcases allX q with hq1 | ⟨j, hj, rfl⟩
    · exact absurd (Or.inr hq1) h1
    exact isX_ok hk hj (xj1_i 0 (fun J hJ => xj0_i (fun J2 hJ2 => ⟨fun q => absurd q (by decide), fun _ => isX_bad h2 ⟨fun _ => hJ2, fun q => absurd rfl q⟩⟩) hJ) hp)
theorem pb_fst_ok {k j k2 j2 : Nat} (hk : k < 6) (hj : j < 6) (hk2 : k2 < 6) (hj2 : j2 < 6) {P : Int32 → Prop} (hp : P 1) : q_X1_isCell (nI k) (nI j) (fun (r1 : Int32) => xj1 P (fun (J2 : Int32 → Prop) => xj0 (J2 (0 : Int32)) (fun (J21 : Prop) => ((r1 = (0 : Int32) → J21) ∧ (¬ r1 = (0 : Int32) → q_X1_isCell (nI k2) (nI j2) (fun (r22 : Int32) => ((r22 = (0 : Int32) → J21) ∧ (¬ r22 = (0 : Int32) → J2 (1 : Int32))))))))) :=
  isX_ok hk hj (xj1_i 1 (fun J hJ => xj0_u fun J2 => ⟨fun q => absurd q (by decide), fun _ => isX_ok hk2 hj2 ⟨fun q => absurd q (by decide), fun _ => hJ⟩⟩) hp)
theorem cs_ok2 {v : Nat} (hv : v ≤ 10) {J1 : Prop} {J0 : Prop} (h : J1) : xj0 J1 (fun (J19 : Prop) => ((cv v = (-1 : Int32) → J19) ∧ (¬ cv v = (-1 : Int32) → q_X1_isCountry (cv v) (fun (r20 : Int32) => ((r20 = (0 : Int32) → J0) ∧ (¬ r20 = (0 : Int32) → J19)))))) := cs_ok hv h
theorem pb_snd_bad {p q p2 q2 w : Int32} (h : badP w ∨ p2 < p ∨ q2 < q) {P : Int32 → Prop} (hp : P 0) : xj1 P (fun (J4 : Int32 → Prop) => xj0 (J4 (0 : Int32)) (fun (J18 : Prop) => xj0 (((p2 < p → J18) ∧ (¬ p2 < p → ((q2 < q → J18) ∧ (¬ q2 < q → J4 (1 : Int32)))))) (fun (J19 : Prop) => ((w = (-1 : Int32) → J19) ∧ (¬ w = (-1 : Int32) → q_X1_isCountry w (fun (r20 : Int32) => ((r20 = (0 : Int32) → J18) ∧ (¬ r20 = (0 : Int32) → J19)))))))) := by
  refine xj1_i 0 (fun J hJ => xj0_i (fun J2 hJ2 => ?_) hJ) hp
  rcases allP w with hw | ⟨v, hv, rfl⟩
  · exact cs_bad hw hJ2
  · refine cs_ok hv ⟨fun _ => hJ2, fun h1 => ⟨fun _ => hJ2, fun h2 => ?_⟩⟩
    rcases h with h | h | h
    · rcases Nat.lt_or_ge v 10 with a | a
      · rw [cv_n a] at h; exact (not_badC a h.2).elim
      · exact absurd ((cv_m1 hv).mpr (by omega)) h.1
    · exact absurd h h1
    · exact absurd h h2
theorem pb_snd_ok {p q p2 q2 : Int32} {v : Nat} (hv : v ≤ 10) (h1 : ¬ p2 < p) (h2 : ¬ q2 < q) {P : Int32 → Prop} (hp : P 1) : xj1 P (fun (J4 : Int32 → Prop) => xj0 (J4 (0 : Int32)) (fun (J18 : Prop) => xj0 (((p2 < p → J18) ∧ (¬ p2 < p → ((q2 < q → J18) ∧ (¬ q2 < q → J4 (1 : Int32)))))) (fun (J19 : Prop) => ((cv v = (-1 : Int32) → J19) ∧ (¬ cv v = (-1 : Int32) → q_X1_isCountry (cv v) (fun (r20 : Int32) => ((r20 = (0 : Int32) → J18) ∧ (¬ r20 = (0 : Int32) → J19)))))))) := by
  refine xj1_i 1 (fun J hJ => xj0_u (fun J2 => ?_)) hp
  exact cs_ok hv ⟨fun q => absurd q h1, fun _ => ⟨fun q => absurd q h2, fun _ => hJ⟩⟩
theorem X1_pb_bad1 {p q p2 q2 w : Int32} {cel : Nat → Int32} {P : Int32 → (Nat → Int32) → Int32 → Prop} (h : (badX p ∨ badX q) ∨ (badX p2 ∨ badX q2)) (hP : P 0 cel 1) : q_X1_paintBlock p q p2 q2 w cel P := by
  unfold q_X1_paintBlock
  refine pb_fst_bad (Q := fun _ a => a) h ?_
  by_cases h2 : badP w ∨ p2 < p ∨ q2 < q
  · exact pb_snd_bad h2 (goes_0 ⟨fun q => absurd rfl q, fun _ => hP⟩)
  · rcases allP w with hw | ⟨v, hv, rfl⟩
    · exact absurd (Or.inl hw) h2
    · exact pb_snd_ok hv (fun z => h2 (Or.inr (Or.inl z))) (fun z => h2 (Or.inr (Or.inr z))) (goes_0 ⟨fun q => absurd rfl q, fun _ => hP⟩)
theorem X1_pb_bad2 {k j k2 j2 : Nat} (hk : k < 6) (hj : j < 6) (hk2 : k2 < 6) (hj2 : j2 < 6) {w : Int32} {cel : Nat → Int32} {P : Int32 → (Nat → Int32) → Int32 → Prop} (h : badP w ∨ nI k2 < nI k ∨ nI j2 < nI j) (hP : P 0 cel 2) : q_X1_paintBlock (nI k) (nI j) (nI k2) (nI j2) w cel P := by
  unfold q_X1_paintBlock
  exact pb_fst_ok hk hj hk2 hj2 (pb_snd_bad h (goes_10 ⟨fun q => absurd rfl q, fun _ => hP⟩))
theorem X1_pb_ok {k1 j1 k2 j2 v : Nat} (hk1 : k1 < 6) (hj1 : j1 < 6) (hk2 : k2 < 6) (hj2 : j2 < 6) (hv : v ≤ 10) (hk : k1 ≤ k2) (hj : j1 ≤ j2) {c : Nat → Nat} (hb : ∀ i, i < 36 → c i ≤ 10) {cel : Nat → Int32} (hc : ∀ i, i < 36 → cel i = cv (c i)) {P : Int32 → (Nat → Int32) → Int32 → Prop} (hP : ∀ cel', (∀ i, i < 36 → cel' i = cv (pt c (bk k1 j1 k2 j2) v i)) → P (nI (pbs c (bk k1 j1 k2 j2) v 36)) cel' 0) : q_X1_paintBlock (nI k1) (nI j1) (nI k2) (nI j2) (cv v) cel P := by
  unfold q_X1_paintBlock
  refine pb_fst_ok hk1 hj1 hk2 hj2 (pb_snd_ok hv (nI_nlt hk (by omega)) (nI_nlt hj (by omega)) (goes_111 ⟨fun _ => ⟨37, ?_⟩, fun q => absurd q (by decide)⟩))
  exact X1_pb_L hk1 hj1 hk2 hj2 hv hb hP 36 0 cel rfl (fun i hi => by rw [hc i hi, if_neg (Nat.not_lt_zero i)])
/-- the cells of a country or of the sea, for the class -/
theorem sea_L {c : Nat → Nat} {land : Nat → Int64} (hl : ∀ k, k < 10 → land k = lN (ld_S c k)) (hb : ∀ i, i < 36 → c i ≤ 10) {P0 : Int64 → Prop} (h : P0 (lN (ld_S c 10))) : ∀ (d k : Nat), k + d = 10 → q_X0_cellsOf_L24 land P0 (d + 1) (lN (so (fun i => decide (k ≤ c i)) 36)) (nI k) := by
  intro d
  induction d with
  | zero =>
    intro k hk
    have : k = 10 := by omega
    subst this
    rw [q_X0_cellsOf_L24]
    refine ⟨fun _ => ?_, fun q => absurd (by decide) q⟩
    unfold ld_S at h
    rw [so_cong (q := fun i => decide (c i = 10)) (fun i hi => decide_eq_decide.mpr (by have := hb i hi; omega))]
    exact h
  | succ d ih =>
    intro k hk
    rw [q_X0_cellsOf_L24]
    refine ⟨fun q => absurd q (ge10 (by omega)), fun _ => ⟨xin_nI (by omega) (by decide), xl_i ?_⟩⟩
    rw [nI_clamp (n := k) (by omega), hl k (by omega), pL_mi, nI_1]
    have e : mi (so (fun i => decide (k ≤ c i)) 36) (ld_S c k) = so (fun i => decide (k + 1 ≤ c i)) 36 := by
      refine set_eq (n := 36) (mi_lt (so_lt _ _)) (so_lt _ _) (fun i hi => ?_)
      rw [mi_bit, so_bit, so_bit, ld_bit hi, decide_eq_true hi, Bool.true_and, Bool.true_and, ← decide_not, ← Bool.decide_and]
      exact decide_eq_decide.mpr (by omega)
    rw [e]
    exact ih (k + 1) (by omega)
theorem cellsOf_spec {c : Nat → Nat} {land : Nat → Int64} (hl : ∀ k, k < 10 → land k = lN (ld_S c k)) (hb : ∀ i, i < 36 → c i ≤ 10) {v : Nat} (hv : v ≤ 10) {P : Int64 → Prop} (h : P (lN (ld_S c v))) : q_X0_cellsOf (cv v) land P := by
  unfold q_X0_cellsOf
  rcases Nat.lt_or_ge v 10 with hv2 | hv2
  · rw [cv_n hv2]
    refine xj0_u fun J => ⟨fun q => absurd q (nI_pos (by omega)), fun _ => ⟨fun q => absurd q (ge10 hv2), fun _ => ⟨xin_nI hv2 (by decide), ?_⟩⟩⟩
    rw [nI_clamp (n := v) (by omega), hl v hv2]
    exact h
  · have e : v = 10 := by omega
    subst e
    refine xj0_i (fun J hJ => ⟨fun _ => hJ, fun q => absurd (by decide) q⟩) ⟨11, ?_⟩
    have := sea_L hl hb h 10 0 rfl
    have e : so (fun i => decide (0 ≤ c i)) 36 = cM := by
      refine set_eq (n := 36) (so_lt _ _) cM_lt (fun i hi => ?_)
      rw [so_bit, cM_bit, decide_eq_true hi, Bool.true_and, decide_eq_true (Nat.zero_le _)]
    rw [e, ← cM_eq] at this
    exact this
theorem X0_pb_a {c : Nat → Nat} {land : Nat → Int64} {near : Nat → Int32} (hl : ∀ k, k < 10 → land k = lN (ld_S c k)) (hb : ∀ i, i < 36 → c i ≤ 10) {p q p2 q2 w : Int32} {P : Int32 → (Nat → Int64) → Int32 → (Nat → Int32) → Prop} {T : String → Prop} (hT1 : (badX p ∨ badX q) ∨ (badX p2 ∨ badX q2) → T "java/lang/IndexOutOfBoundsException") (hT2 : ∀ k j k2 j2, k < 6 → j < 6 → k2 < 6 → j2 < 6 → p = nI k → q = nI j → p2 = nI k2 → q2 = nI j2 → (badP w ∨ nI k2 < nI k ∨ nI j2 < nI j) → T "java/lang/IllegalArgumentException") (hP : ∀ k j k2 j2 v, k < 6 → j < 6 → k2 < 6 → j2 < 6 → v ≤ 10 → k ≤ k2 → j ≤ j2 → p = nI k → q = nI j → p2 = nI k2 → q2 = nI j2 → w = cv v → ∀ land' near', (∀ l, l < 10 → land' l = lN (ld_S (pt c (bk k j k2 j2) v) l)) → (∀ l, l < 10 → near' l = nI (ne_S (pt c (bk k j k2 j2) v) l)) → P (nI (pbs c (bk k j k2 j2) v 36)) land' (nI (th_S (pt c (bk k j k2 j2) v))) near') : q_X0_paintBlock p q p2 q2 w land near P T := by
  unfold q_X0_paintBlock
  rcases allX p with hp | ⟨k, hk, rfl⟩
  · exact chkX_bad (Or.inl hp) (hT1 (Or.inl (Or.inl hp)))
  rcases allX q with hq | ⟨j, hj, rfl⟩
  · exact chkX_bad (Or.inr hq) (hT1 (Or.inl (Or.inr hq)))
  refine chkX_ok hk hj ?_
  rcases allX p2 with hp | ⟨k2, hk2, rfl⟩
  · exact chkX_bad (Or.inl hp) (hT1 (Or.inr (Or.inl hp)))
  rcases allX q2 with hq | ⟨j2, hj2, rfl⟩
  · exact chkX_bad (Or.inr hq) (hT1 (Or.inr (Or.inr hq)))
  refine chkX_ok hk2 hj2 ?_
  rcases allP w with hw | ⟨v, hv, rfl⟩
  · exact chkP_bad hw (hT2 k j k2 j2 hk hj hk2 hj2 rfl rfl rfl rfl (Or.inl hw))
  refine chkP_ok hv ⟨fun z => hT2 k j k2 j2 hk hj hk2 hj2 rfl rfl rfl rfl (Or.inr (Or.inl z)), fun z => ?_⟩
  rw [nI_ltI (by omega) (by omega)] at z
  rw [nI_leI (by omega) (by omega)]
  refine ⟨fun z2 => ?_, fun z2 => hT2 k j k2 j2 hk hj hk2 hj2 rfl rfl rfl rfl (Or.inr (Or.inr (nI_lt (by omega) (by omega))))⟩
  refine block_spec (by omega) hk2 z2 hj2 (fun a ha hab => cellsOf_spec hl hb hv ?_)
  rw [pL_mi]
  refine J13_spec (mi_lt ha) ?_
  have e : pc (mi a (ld_S c v)) = pbs c (bk k j k2 j2) v 36 := by
    rw [pc_n (n := 36) (mi_lt ha) (by decide)]
    refine ct_cong (fun i hi => ?_)
    rw [mi_bit, ld_bit hi, hab i hi, ← decide_not]
  rw [e]
  exact cover_spec hl ha hab hv (fun land' near' h1 h2 => hP k j k2 j2 v hk hj hk2 hj2 hv (by omega) z2 rfl rfl rfl rfl rfl land' near' h1 h2)
section CASES
variable {L : Nat} {xs : Nat → Int32} {rec9 : recT} {i : Int32} {land : Nat → Int64} {there : Int32} {near : Nat → Int32} {worn : Nat → Int32} {trial : Nat → Int32} {fits : Nat → Int32} {ways : Nat → Int64} {joined : Nat → Nat → Int32} {mcel : Nat → Int32} {mtint : Nat → Int32} {mcells : Nat → Int64} {mnear : Nat → Int32} {mthere : Int32} {mways : Nat → Int64} {mmore : Nat → Int64} {mthrown : Int32} {out : Nat → Int64} {c t : Nat → Nat}
theorem case1 (hx : xin (i + (1 : Int32)) L = true) (hx2 : xin (i + (2 : Int32)) L = true) (hx3 : xin (i + (3 : Int32)) L = true) (hx4 : xin (i + (4 : Int32)) L = true) (hx5 : xin (i + (5 : Int32)) L = true) (r : RelX land there near worn mcel mtint c t) (hr : RecOK rec9 i) : q_L_case1 L xs rec9 i land there near worn trial fits ways joined mcel mtint mcells mnear mthere mways mmore mthrown out := by
  obtain ⟨hb, ht, hl, hth, hn, hw, hc, hm⟩ := id r
  unfold q_L_case1 q_L_paintBlock
  refine ⟨hx, hx2, hx3, hx4, hx5, ?_⟩
  generalize xs (i + (1 : Int32)).toNatClampNeg = p
  generalize xs (i + (2 : Int32)).toNatClampNeg = q
  generalize xs (i + (3 : Int32)).toNatClampNeg = p2
  generalize xs (i + (4 : Int32)).toNatClampNeg = q2
  generalize xs (i + (5 : Int32)).toNatClampNeg = w
  refine X0_pb_a hl hb (fun hB => Or.inl ⟨rfl, hx, hx2, hx3, hx4, hx5, X1_pb_bad1 hB ?_⟩) (fun k j k2 j2 hk hj hk2 hj2 e1 e2 e3 e4 hB => Or.inr ⟨rfl, hx, hx2, hx3, hx4, hx5, ?_⟩) (fun k j k2 j2 v hk hj hk2 hj2 hv le1 le2 e1 e2 e3 e4 e5 land' near' h1 h2 => ⟨hx, hx2, hx3, hx4, hx5, ?_⟩)
  · exact thr (end_ex (by decide) (hr _ _ _ _ _ _ _ _ _ _ _ _ _ _ _ _ _ c t r))
  · subst e1 e2 e3 e4
    exact X1_pb_bad2 hk hj hk2 hj2 hB (thr (end_ex (by decide) (hr _ _ _ _ _ _ _ _ _ _ _ _ _ _ _ _ _ c t r)))
  · subst e1 e2 e3 e4 e5
    refine X1_pb_ok hk hj hk2 hj2 hv le1 le2 hb hc (fun cel' h3 => ?_)
    exact thr (end_ok (hr _ _ _ _ _ _ _ _ _ _ _ _ _ _ _ _ _ _ _ (rel_paint (b := bk k j k2 j2) r hv h1 h2 h3)))
end CASES
