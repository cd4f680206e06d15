/-! a chain is exchanged there and back -/
theorem un_has {n : Nat → Nat} {A s a i : Nat} : ∀ m, a < m → s.testBit a = true → (n a).testBit i = true → A.testBit i = true → (un n A s m).testBit i = true := by
  intro m
  induction m with
  | zero => intro h; exact absurd h (Nat.not_lt_zero a)
  | succ m ih =>
    intro h hs hn hA
    rw [un]
    by_cases e : a = m
    · subst e
      rw [if_pos hs, Nat.testBit_or, Nat.testBit_and, hn, hA]
      simp
    · have := ih (by omega) hs hn hA
      split
      · rw [Nat.testBit_or, this, Bool.true_or]
      · exact this
section CHN
variable {n : Nat → Nat} {th : Nat} {t : Nat → Nat} {k v : Nat}
theorem chn_k (hk : k < 10) : (chn n th t k v).testBit k = true := by
  have key : ∀ m, wi (2 ^ k) (chi n (ov th t (t k) v) (2 ^ k) m) := by
    intro m
    induction m with
    | zero => exact wi_rf _
    | succ m ih => exact wi_tr ih (un_up 10)
  exact key 10 k (Nat.testBit_two_pow_self)
theorem chn_ov (hk : k < 10) (hth : th.testBit k = true) {j : Nat} (hj : j < 10) (h : (chn n th t k v).testBit j = true) : th.testBit j = true ∧ (t j = v ∨ t j = t k) := by
  rcases chi_in 10 j h with h | h
  · rw [Nat.testBit_two_pow, decide_eq_true_eq] at h
    subst h
    exact ⟨hth, Or.inr rfl⟩
  · rw [ov_bit hj, Bool.and_eq_true, decide_eq_true_eq] at h
    exact h
theorem chn_cl (hg : ∀ k, k < 10 → n k < 1024) (hk : k < 10) {a i : Nat} (ha : a < 10) (hi : i < 10) (h : (chn n th t k v).testBit a = true) (hn : (n a).testBit i = true) (ht : th.testBit i = true) (h2 : t i = v ∨ t i = t k) : (chn n th t k v).testBit i = true := by
  have e : stp n (ov th t (t k) v) (chn n th t k v) = chn n th t k v := chi_fix hg (pow_lt10 hk) (pc_pow hk)
  rw [← e]
  exact un_has 10 ha h hn (by rw [ov_bit hi, ht, Bool.true_and]; exact decide_eq_true h2)
theorem ov_cong {t1 : Nat → Nat} {u : Nat} (h : ∀ j, j < 10 → th.testBit j = true → ((t1 j = u ∨ t1 j = v) ↔ (t j = v ∨ t j = u))) : ov th t1 v u = ov th t u v := by
  refine so_cong (fun j hj => ?_)
  cases e : th.testBit j
  · rfl
  · rw [Bool.true_and, Bool.true_and]
    exact decide_eq_decide.mpr (h j hj e)
/-- tints after the exchange -/
abbrev t9 (n : Nat → Nat) (th : Nat) (t : Nat → Nat) (k v : Nat) : Nat → Nat := exc t (chn n th t k v) (t k) v
theorem t9_in {j : Nat} (h : (chn n th t k v).testBit j = true) : t9 n th t k v j = if t j = t k then v else t k := if_pos h
theorem t9_out {j : Nat} (h : (chn n th t k v).testBit j = false) : t9 n th t k v j = t j := if_neg (by rw [h]; exact Bool.false_ne_true)
theorem t9_k (hk : k < 10) : t9 n th t k v k = v := by rw [t9_in (chn_k hk), if_pos rfl]
theorem t9_pair (hk : k < 10) (hth : th.testBit k = true) {j : Nat} (hj : j < 10) (h : (chn n th t k v).testBit j = true) : t9 n th t k v j = t k ∨ t9 n th t k v j = v := by
  rw [t9_in h]
  by_cases e : t j = t k
  · rw [if_pos e]; exact Or.inr rfl
  · rw [if_neg e]; exact Or.inl rfl
theorem chn_back (hk : k < 10) (hth : th.testBit k = true) : chn n th (t9 n th t k v) k (t k) = chn n th t k v := by
  have e : ov th (t9 n th t k v) v (t k) = ov th t (t k) v := ov_cong (fun j hj hjt => by
    cases q : (chn n th t k v).testBit j
    · rw [t9_out q]; exact ⟨fun h => h.symm, fun h => h.symm⟩
    · have h1 := t9_pair (n := n) (v := v) hk hth hj q
      have h2 := (chn_ov hk hth hj q).2
      exact ⟨fun _ => h2, fun _ => h1⟩)
  unfold chn
  rw [show (t9 n th t k v) k = v from t9_k hk]
  exact congrArg (fun A => chi n A (2 ^ k) 10) e
theorem t9_back (hk : k < 10) (hth : th.testBit k = true) (huv : t k ≠ v) {j : Nat} (hj : j < 10) : exc (t9 n th t k v) (chn n th (t9 n th t k v) k (t k)) v (t k) j = t j := by
  rw [chn_back hk hth]
  cases q : (chn n th t k v).testBit j
  · unfold exc
    rw [if_neg (by rw [q]; exact Bool.false_ne_true)]
    exact t9_out q
  · show (if (chn n th t k v).testBit j = true then (if t9 n th t k v j = v then t k else v) else t9 n th t k v j) = t j
    rw [if_pos q, t9_in q]
    have h2 := (chn_ov hk hth hj q).2
    by_cases e : t j = t k
    · rw [if_pos e, if_pos rfl]; exact e.symm
    · rw [if_neg e, if_neg huv]
      rcases h2 with h2 | h2
      · exact h2.symm
      · exact absurd h2 e
theorem t9_ne0 (hk : k < 10) (hth : th.testBit k = true) (hu : t k ≠ 0) (hv : v ≠ 0) {j : Nat} (hj : j < 10) : t9 n th t k v j = 0 ↔ t j = 0 := by
  cases q : (chn n th t k v).testBit j
  · rw [t9_out q]
  · have h1 := t9_pair (n := n) (v := v) hk hth hj q
    have h2 := (chn_ov hk hth hj q).2
    omega
theorem cE2_t9 (g : Gr n) (hnt : ∀ a i, a < 10 → i < 10 → (n a).testBit i = true → th.testBit i = true) (hk : k < 10) (hth : th.testBit k = true) (hu : t k ≠ 0) (hv : v ≠ 0) {a b : Nat} (ha : a < 10) (hb : b < 10) : cE2 n (t9 n th t k v) a b = cE2 n t a b := by
  unfold cE2
  cases e : (n a).testBit b
  · rfl
  · rw [Bool.true_and, Bool.true_and]
    refine decide_eq_decide.mpr ?_
    have e2 : (n b).testBit a = true := by rw [← g.2.1 a b ha hb]; exact e
    have za := t9_ne0 (n := n) hk hth hu hv ha
    cases qa : (chn n th t k v).testBit a
    · cases qb : (chn n th t k v).testBit b
      · rw [t9_out qa, t9_out qb]
      · have h1 := t9_pair (n := n) (v := v) hk hth hb qb
        have h2 := (chn_ov hk hth hb qb).2
        have h3 : ¬ (t a = v ∨ t a = t k) := fun q => by
          have := chn_cl g.1 hk hb ha qb e2 (hnt b a hb ha e2) q
          rw [qa] at this; cases this
        rw [t9_out qa]
        omega
    · cases qb : (chn n th t k v).testBit b
      · have h1 := t9_pair (n := n) (v := v) hk hth ha qa
        have h2 := (chn_ov hk hth ha qa).2
        have h3 : ¬ (t b = v ∨ t b = t k) := fun q => by
          have := chn_cl g.1 hk ha hb qa e (hnt a b ha hb e) q
          rw [qb] at this; cases this
        rw [t9_out qb]
        omega
      · have h2 := (chn_ov hk hth ha qa).2
        have h3 := (chn_ov hk hth hb qb).2
        rw [t9_in qa, t9_in qb]
        by_cases x : t a = t k
        · by_cases y : t b = t k
          · rw [if_pos x, if_pos y]; omega
          · rw [if_pos x, if_neg y]; omega
        · by_cases y : t b = t k
          · rw [if_neg x, if_pos y]; omega
          · rw [if_neg x, if_neg y]; omega
theorem cfl_t9 (g : Gr n) (hnt : ∀ a i, a < 10 → i < 10 → (n a).testBit i = true → th.testBit i = true) (hk : k < 10) (hth : th.testBit k = true) (hu : t k ≠ 0) (hv : v ≠ 0) : cfl n (t9 n th t k v) = cfl n t := by
  unfold cfl
  refine sm_cong (fun a ha => ct_cong (fun b hb => cE2_t9 g hnt hk hth hu hv ha (by omega)))
end CHN
theorem isTb_t9 {c t : Nat → Nat} {k v : Nat} (hk : k < 10) (hth : (th_S c).testBit k = true) (hu : t k ≠ 0) (hv : v ≠ 0) : isTb c (t9 (ne_S c) (th_S c) t k v) 10 = isTb c t 10 := by
  unfold isTb
  rw [cfl_t9 (gr_ne c) (fun a i _ hi h => ne_th hi h) hk hth hu hv]
  congr 1
  have key : ∀ m, m ≤ 10 → al (fun j => !(th_S c).testBit j || decide (t9 (ne_S c) (th_S c) t k v j ≠ 0)) m = al (fun j => !(th_S c).testBit j || decide (t j ≠ 0)) m := by
    intro m
    induction m with
    | zero => intro _; rfl
    | succ m ih =>
      intro hm
      rw [al_s, al_s, ih (by omega)]
      congr 2
      exact decide_eq_decide.mpr (not_congr (t9_ne0 hk hth hu hv (by omega)))
  exact key 10 (Nat.le_refl _)
section CHS
variable {land : Nat → Int64} {there : Int32} {near worn : Nat → Int32} {c t : Nat → Nat}
theorem RX_cong (r : RX land there near worn c t) {t' : Nat → Nat} (h : ∀ j, j < 10 → t j = t' j) : RX land there near worn c t' := ⟨r.1, fun k hk => by rw [← h k hk]; exact r.2.1 k hk, r.2.2.1, r.2.2.2.1, r.2.2.2.2.1, fun k hk => by rw [← h k hk]; exact r.2.2.2.2.2 k hk⟩
def sv9 (t : Nat → Nat) : Nat → Int64
  | 0 => 0
  | j + 1 => ((11 : Int64) * sv9 t j) + (nI (t j)).toInt64
theorem sv9_cong {t t' : Nat → Nat} : ∀ {j : Nat}, (∀ i, i < j → t i = t' i) → sv9 t j = sv9 t' j := by
  intro j
  induction j with
  | zero => intro _; rfl
  | succ j ih =>
    intro h
    rw [sv9, sv9, ih (fun i hi => h i (by omega)), h j (by omega)]
theorem sum_L (r : RX land there near worn c t) {P0 : Int64 → Prop} (h : P0 (sv9 t 10)) : ∀ (d j : Nat), j + d = 10 → q_L_sum_L4 worn P0 (d + 1) (sv9 t j) (nI j) := by
  intro d
  induction d with
  | zero =>
    intro j hj
    rw [q_L_sum_L4]
    have : j = 10 := by omega
    subst this
    exact ⟨fun _ => h, fun q => absurd (show (10 : Int32) ≤ nI 10 by decide) q⟩
  | succ d ih =>
    intro j hj
    rw [q_L_sum_L4]
    refine ⟨fun q => absurd q (ge10 (by omega)), fun _ => z_tintOf r (by omega) (xl_i ?_)⟩
    rw [show nI j + (1 : Int32) = nI (j + 1) from nI_add j 1]
    exact ih (j + 1) (by omega)
theorem sum_spec (r : RX land there near worn c t) {P : Int64 → Prop} (h : P (sv9 t 10)) : q_L_sum worn P := ⟨11, sum_L r h 10 0 rfl⟩
theorem xj1_n {α : Type} {rest : α → Prop} {tree : (α → Prop) → Prop} (h : ∀ J : α → Prop, tree J) : xj1 rest tree := h rest
theorem badT0 : badT 0 := Or.inl (by decide)
theorem badT11 : badT 11 := Or.inr (by decide)
theorem neg3 : ¬ (-1000003 : Int32) = 0 := by decide
theorem nI_nz {a : Nat} (ha : a < 2 ^ 31) (h : a ≠ 0) : ¬ nI a = (0 : Int32) := fun q => h ((nI_eq (b := 0) ha (by decide)).mp q)
theorem area_ne0 {c : Nat → Nat} {k : Nat} (h : ld_S c k ≠ 0) : pc (ld_S c k) ≠ 0 := fun q => h (pc_0 (ld_lt c k) (by omega))
theorem chains_spec (r : RX land there near worn c t) {k v : Nat} (hk : k < 10) (v1 : 1 ≤ v) (v2 : v ≤ 10) {P : Int32 → (Nat → Int32) → Prop} (h : ∀ worn', RX land there near worn' c t → P 1 worn') : q_L_chains (nI k) (nI v) land there near worn P := by
  have ht := r.2.1
  have hkk := ht k hk
  have hp36 := pc_36 (ld_lt c k)
  unfold q_L_chains
  refine z_tintOf r hk (z_isTinted r (z_conflicts r (sum_spec r ?_)))
  by_cases hok : ld_S c k ≠ 0 ∧ t k ≠ 0
  · obtain ⟨h1, h2⟩ := hok
    have hth : (th_S c).testBit k = true := (th_bit hk).trans (decide_eq_true h1)
    have hS : chn (ne_S c) (th_S c) t k v < 1024 := chn_lt (gr_ne c).1 hk
    have hS1 : 1 ≤ pc (chn (ne_S c) (th_S c) t k v) := Nat.le_trans (pc_pow hk) (wi_pc (fun i hi => by
      rw [Nat.testBit_two_pow, decide_eq_true_eq] at hi
      subst hi
      exact chn_k hk))
    have hS2 : pc (chn (ne_S c) (th_S c) t k v) ≤ pc (th_S c) := wi_pc (fun i hi => (chn_ov hk hth (bit_lt hS hi) hi).1)
    have hS3 := pc_10 (th_lt c)
    have e0 : ¬ nI (t k) = (0 : Int32) := nI_nz (by omega) h2
    have ea : ¬ nI (pc (ld_S c k)) = (0 : Int32) := nI_nz (by omega) (area_ne0 h1)
    refine z_chain r hk v1 v2 h1 h2 (z_area r hk (xj0_u (fun J7 => ⟨fun q => absurd q ea, fun _ => ⟨fun _ => ?_, fun q => absurd q e0⟩⟩)))
    by_cases huv : t k = v
    · refine xj2_all (fun a b => a = 1 ∧ RX land there near b c t) (fun J hJ => xj1_n (fun J22 => ⟨fun q => absurd q (nI_nle (by omega) (by omega)), fun _ => z_countries r ⟨fun q => absurd q (nI_nlt hS2 (by omega)), fun _ => z_exchange_same r hk v1 v2 h1 huv ?_⟩⟩)) ?_
      · refine xj1_i (0 : Int32) (fun J27 h27 => ⟨fun q => absurd (by rw [huv]) q, fun _ => h27⟩) ⟨fun q => absurd rfl q, fun _ => z_tintOf r hk ⟨fun q => absurd (by rw [huv]) q, fun _ => z_conflicts r ⟨fun q => absurd rfl q, fun _ => z_isTinted r ⟨fun q => absurd rfl q, fun _ => z_chain r hk (by omega) (by omega) h1 h2 ⟨fun q => absurd (by rw [huv]) q, fun _ => hJ _ _ ⟨rfl, r⟩⟩⟩⟩⟩⟩
      · rintro a b ⟨rfl, r1⟩
        refine ⟨fun q => absurd q (by decide), fun _ => z_exchange_same r1 hk (by omega) (by omega) h1 rfl ?_⟩
        refine xj1_i (0 : Int32) (fun J18 h18 => ⟨fun q => absurd (by rw [huv]) q, fun _ => h18⟩) ⟨fun q => absurd rfl q, fun _ => sum_spec r1 ⟨fun q => absurd (pcmp.mpr rfl) q, fun _ => g_chain_2 hk badT11 ⟨fun q => absurd rfl q, fun _ => ⟨xb1, h b r1⟩⟩⟩⟩
    · have enuv : ¬ nI (t k) = nI v := fun q => huv ((nI_eq (by omega) (by omega)).mp q)
      refine xj2_all (fun a b => a = 1 ∧ RX land there near b c (t9 (ne_S c) (th_S c) t k v)) (fun J hJ => xj1_n (fun J22 => ⟨fun q => absurd q (nI_nle (by omega) (by omega)), fun _ => z_countries r ⟨fun q => absurd q (nI_nlt hS2 (by omega)), fun _ => z_exchange r hk v1 v2 h1 h2 huv (fun w1 r1 => ?_)⟩⟩)) ?_
      · have r1' : RX land there near w1 c (t9 (ne_S c) (th_S c) t k v) := r1
        have e1 : t9 (ne_S c) (th_S c) t k v k = v := t9_k hk
        refine xj1_i (nI (pc (chn (ne_S c) (th_S c) t k v))) (fun J27 h27 => ⟨fun _ => h27, fun q => absurd q enuv⟩) ⟨fun q => absurd rfl q, fun _ => z_tintOf r1' hk ?_⟩
        rw [e1]
        refine ⟨fun q => absurd rfl q, fun _ => z_conflicts r1' ?_⟩
        rw [cfl_t9 (gr_ne c) (fun a i _ hi h => ne_th hi h) hk hth h2 (by omega)]
        refine ⟨fun q => absurd rfl q, fun _ => z_isTinted r1' ?_⟩
        rw [isTb_t9 hk hth h2 (by omega)]
        refine ⟨fun q => absurd rfl q, fun _ => z_chain r1' hk (by omega) (by omega) h1 (by rw [e1]; omega) ?_⟩
        rw [chn_back hk hth]
        exact ⟨fun q => absurd rfl q, fun _ => hJ _ _ ⟨rfl, r1'⟩⟩
      · rintro a b ⟨rfl, r1⟩
        have e1 : t9 (ne_S c) (th_S c) t k v k = v := t9_k hk
        refine ⟨fun q => absurd q (by decide), fun _ => z_exchange r1 hk (by omega) (by omega) h1 (by rw [e1]; omega) (by rw [e1]; exact fun q => huv q.symm) (fun w2 r2 => ?_)⟩
        rw [e1] at r2
        have r3 : RX land there near w2 c t := RX_cong r2 (fun j hj => t9_back hk hth huv hj)
        rw [chn_back hk hth]
        refine xj1_i (nI (pc (chn (ne_S c) (th_S c) t k v))) (fun J18 h18 => ⟨fun _ => h18, fun q => absurd q enuv⟩) ⟨fun q => absurd rfl q, fun _ => sum_spec r3 ⟨fun q => absurd (pcmp.mpr rfl) q, fun _ => g_chain_2 hk badT11 ⟨fun q => absurd rfl q, fun _ => ⟨xb1, h w2 r3⟩⟩⟩⟩
  · refine g_chain_3 r hk v1 v2 hok (z_area r hk (xj0_i (fun J7 h7 => ⟨fun _ => h7, fun q1 => ⟨fun q2 => ?_, fun _ => h7⟩⟩) ?_))
    · exfalso
      refine hok ⟨fun q => q1 (by rw [q, pc_z]; rfl), fun q => q2 (by rw [q]; rfl)⟩
    · exact ⟨fun q => absurd rfl q, fun _ => g_exchange_3 r hk v1 v2 hok ⟨fun q => absurd rfl q, fun _ => g_chain_2 hk badT0 ⟨fun q => absurd rfl q, fun _ => g_chain_1 (Or.inr (by decide)) ⟨fun q => absurd rfl q, fun _ => sum_spec r ⟨fun q => absurd (pcmp.mpr rfl) q, fun _ => ⟨xb1, h worn r⟩⟩⟩⟩⟩⟩
end CHS
