/-! paints -/
def lowI (x : Int32) (n : Nat) : Int32 := (x &&& (2147483647 : Int32)) - (x &&& (2147483647 : Int32)) / nI n * nI n
theorem lowI_lt (x : Int32) {n : Nat} (h0 : 0 < n) (hn : n < 2 ^ 31) : ∃ v, v < n ∧ lowI x n = nI v := rem_eq (pos_mask x) h0 hn
theorem low_val {x : Int32} {n v : Nat} (h0 : 0 < n) (hn : n < 2 ^ 31) (e : lowI x n = nI v) {P : Int32 → Prop} (h : P (nI v)) : q_L_low x (nI n) P := by
  refine ⟨fun q => ?_, ?_⟩
  · have := (nI_eq (by omega) (by decide)).mp (q.trans pI_0.symm)
    omega
  · rw [← e] at h
    exact h
theorem cv_m (v : Nat) (hv : v < 11) : ∃ w, w ≤ 10 ∧ nI v - (1 : Int32) = cv w := by
  by_cases e : v = 0
  · subst e
    exact ⟨10, Nat.le_refl _, by rw [cv10]; rfl⟩
  · refine ⟨v - 1, by omega, ?_⟩
    rw [show nI v - (1 : Int32) = nI (v - 1) from pI_sub (b := 1) (by omega), cv_n (by omega)]
section PA
variable {land : Nat → Int64} {there : Int32} {near worn : Nat → Int32} {c t : Nat → Nat}
theorem paints_206 (r : RX land there near worn c t) {v k1 j1 k2 j2 : Nat} (hv : v ≤ 10) (hk1 : k1 < 6) (hj1 : j1 < 6) (hk2 : k2 < 6) (hj2 : j2 < 6) {P0 : Int32 → Prop} (h : P0 (nI (pbs c (bk k1 j1 k2 j2) v 36))) : ∀ (d i : Nat), i + d = 36 → q_L_paints_L206 (cv v) (nI k1) (nI j1) (nI k2) (nI j2) land P0 (d + 1) (nI (pbs c (bk k1 j1 k2 j2) v i)) (nI i) := by
  intro d
  induction d with
  | zero =>
    intro i hi
    rw [q_L_paints_L206]
    have : i = 36 := by omega
    subst this
    exact ⟨fun _ => h, fun q => absurd (show (36 : Int32) ≤ nI 36 by decide) q⟩
  | succ d ih =>
    intro i hi
    rw [q_L_paints_L206]
    have hi6 := d6_raw i (by omega)
    have g := ih (i + 1) (by omega)
    have hs : pbs c (bk k1 j1 k2 j2) v (i + 1) = pbs c (bk k1 j1 k2 j2) v i + (bk k1 j1 k2 j2 i && decide (c i ≠ v)).toNat := ct_s _ _
    rw [hs] at g
    refine ⟨fun q => absurd q (ge36 (by omega)), fun _ => ?_⟩
    rw [hi6.1] at *
    rw [show nI i - nI (i / 6) * (6 : Int32) = nI (i % 6) from hi6.2, show nI i + (1 : Int32) = nI (i + 1) from nI_add i 1, nI_ltI (by omega) (by omega), nI_ltI (by omega) (by omega), nI_ltI (by omega) (by omega), nI_ltI (by omega) (by omega), I_add0]
    have no : bk k1 j1 k2 j2 i = false → q_L_paints_L206 (cv v) (nI k1) (nI j1) (nI k2) (nI j2) land P0 (d + 1) (nI (pbs c (bk k1 j1 k2 j2) v i)) (nI (i + 1)) := fun e => by
      rw [e, Bool.false_and] at g
      exact g
    refine ⟨fun q => xl_i (no (decide_eq_false (by omega))), fun q1 => ⟨fun q => xl_i (no (decide_eq_false (by omega))), fun q2 => ⟨fun q => xl_i (no (decide_eq_false (by omega))), fun q3 => ⟨fun q => xl_i (no (decide_eq_false (by omega))), fun q4 => z_countryAt r (by omega) (by omega) ?_⟩⟩⟩⟩
    have eb : bk k1 j1 k2 j2 i = true := decide_eq_true ⟨by omega, by omega, by omega, by omega⟩
    rw [eb, Bool.true_and] at g
    rw [show 6 * (i / 6) + i % 6 = i by omega, cv_inj (r.1 i (by omega)) hv]
    refine ⟨fun q => xl_i ?_, fun q => xl_i ?_⟩
    · have e2 : decide (c i ≠ v) = false := decide_eq_false (fun z => z q)
      rw [e2] at g
      exact g
    · have e2 : decide (c i ≠ v) = true := decide_eq_true q
      rw [e2] at g
      rw [show nI (pbs c (bk k1 j1 k2 j2) v i) + (1 : Int32) = nI (pbs c (bk k1 j1 k2 j2) v i + 1) from nI_add _ 1]
      exact g
theorem min5 {a b : Nat} (hb : b = (if a ≤ 5 then a else 5)) (ha : a < 100) {J : Int32 → Prop} (h : J (nI b)) : (nI a ≤ (5 : Int32) → J (nI a)) ∧ (¬ nI a ≤ (5 : Int32) → J 5) := by
  rw [show (5 : Int32) = nI 5 from rfl, nI_leI (by omega) (by decide)]
  subst hb
  refine ⟨fun q => ?_, fun q => ?_⟩
  · rw [if_pos q] at h; exact h
  · rw [if_neg q] at h; exact h
theorem two_or {u w : Nat} (hw : w < 6) {J : Int32 → Prop} (h : J (nI (if u = 0 then 6 - w else 2))) (hu : u < 2) : (¬ nI u = (0 : Int32) → J 2) ∧ (nI u = (0 : Int32) → J ((6 : Int32) - nI w)) := by
  refine ⟨fun q => ?_, fun q => ?_⟩
  · rw [if_neg (fun e => q (by rw [e]; rfl))] at h; exact h
  · rw [if_pos ((nI_eq (b := 0) (by omega) (by decide)).mp q)] at h
    rw [show (6 : Int32) - nI w = nI (6 - w) from pI_sub (a := 6) (by omega)]
    exact h
theorem bad6 : badX 6 := Or.inr (by decide)
theorem paints_spec (r : RX land there near worn c t) {p1 p2 : Int32} {P : Int32 → (Nat → Int64) → Int32 → (Nat → Int32) → Prop} (h : ∀ land' th' near' c', RX land' th' near' worn c' t → P 1 land' th' near') : q_L_paints p1 p2 land there near P := by
  unfold q_L_paints
  refine low_spec _ (n := 11) (by decide) (by decide) (fun v0 hv0 => xl_i ?_)
  obtain ⟨v, hv, ev⟩ := cv_m v0 hv0
  rw [ev]
  refine low_spec _ (n := 6) (by decide) (by decide) (fun k hk => low_spec _ (n := 6) (by decide) (by decide) (fun j hj => z_countryAt r hk hj (low_spec _ (n := 3) (by decide) (by decide) (fun z hz => ⟨fun _ => ?_, fun _ => ?_⟩))))
  · refine low_spec _ (n := 2) (by decide) (by decide) (fun u1 hu1 => xj1_i (nI (if u1 = 0 then 6 - k else 2)) (fun J hJ => two_or hk hJ hu1) ?_)
    refine low_spec _ (by split <;> omega) (by split <;> omega) (fun x hx => xl_i ?_)
    have hx6 : x < 6 := by
      have : (if u1 = 0 then 6 - k else 2) ≤ 6 := by split <;> omega
      omega
    rw [nI_add]
    refine low_spec _ (n := 2) (by decide) (by decide) (fun u2 hu2 => xj1_i (nI (if u2 = 0 then 6 - j else 2)) (fun J hJ => two_or hj hJ hu2) ?_)
    refine low_spec _ (by split <;> omega) (by split <;> omega) (fun y hy => xl_i ?_)
    have hy6 : y < 6 := by
      have : (if u2 = 0 then 6 - j else 2) ≤ 6 := by split <;> omega
      omega
    rw [nI_add]
    obtain ⟨k2, ek2⟩ : ∃ k2, k2 = (if k + x ≤ 5 then k + x else 5) := ⟨_, rfl⟩
    obtain ⟨j2, ej2⟩ : ∃ j2, j2 = (if j + y ≤ 5 then j + y else 5) := ⟨_, rfl⟩
    have hk2 : k2 < 6 ∧ k ≤ k2 := by
      rw [ek2]; split <;> omega
    have hj2 : j2 < 6 ∧ j ≤ j2 := by
      rw [ej2]; split <;> omega
    refine xj1_i (nI k2) (fun J hJ => min5 ek2 (by omega) hJ) (xj1_i (nI j2) (fun J hJ => min5 ej2 (by omega) hJ) ⟨37, paints_206 r hv hk hj hk2.1 hj2.1 ?_ 36 0 rfl⟩)
    refine z_pb r hk2.2 hk2.1 hj2.2 hj2.1 hv (fun l1 th1 n1 r1 => ⟨fun q => absurd rfl q, fun _ => ?_⟩)
    refine z_pb r1 hk2.2 hk2.1 hj2.2 hj2.1 hv (fun l2 th2 n2 r2 => ⟨fun q => ?_, fun _ => ?_⟩)
    · refine absurd ?_ q
      have : pbs (pt c (bk k j k2 j2) v) (bk k j k2 j2) v 36 = 0 := ct_zero.mpr (fun i _ => by
        unfold pt
        cases e : bk k j k2 j2 i
        · rfl
        · rw [if_pos rfl, Bool.true_and]
          exact decide_eq_false (fun z => z rfl))
      rw [this]
      rfl
    · refine z_countryAt r2 hk2.1 hj2.1 ?_
      have e1 : bk k j k2 j2 (6 * k2 + j2) = true := decide_eq_true ⟨by omega, by omega, by omega, by omega⟩
      have e2 : pt (pt c (bk k j k2 j2) v) (bk k j k2 j2) v (6 * k2 + j2) = v := if_pos e1
      rw [e2]
      refine ⟨fun q => absurd rfl q, fun _ => ?_⟩
      refine g_pb_2 (k := 1) (j := 1) (k2 := 0) (j2 := 1) r2 (by decide) (by decide) (by decide) (by decide) (Or.inl (by decide)) ⟨fun q => absurd rfl q, fun _ => ?_⟩
      refine g_pb_1 r2 (Or.inr (Or.inl bad6)) ⟨fun q => absurd rfl q, fun _ => ?_⟩
      exact g_pb_2 (k := 2) (j := 3) (k2 := 2) (j2 := 2) r2 (by decide) (by decide) (by decide) (by decide) (Or.inr (by decide)) ⟨fun q => absurd rfl q, fun _ => ⟨xb1, h _ _ _ _ r2⟩⟩
  · refine z_paint r hk hj hv (fun l1 th1 n1 r1 => ⟨fun q => absurd rfl q, fun _ => z_countryAt r1 hk hj ?_⟩)
    have e1 : pt c (bk k j k j) v (6 * k + j) = v := if_pos (by rw [bk_one hj]; exact decide_eq_true rfl)
    rw [e1]
    refine ⟨fun q => absurd rfl q, fun _ => g_paint_2 r1 hk hj ⟨by decide, Or.inr (by decide)⟩ ⟨fun q => absurd rfl q, fun _ => g_paint_1 r1 (Or.inl bad6) ⟨fun q => absurd rfl q, fun _ => ⟨xb1, h _ _ _ _ r1⟩⟩⟩⟩
end PA
