/-! looks: what the law counts over the cells is what the class answers -/
def LK (c : Nat → Nat) (j : Nat) (nb bo re : Nat → Int32) : Prop := (∀ a, a < 10 → nb a = nI (Nn c j a)) ∧ (∀ a o, a < 5 → o < 10 → bo (10 * a + o) = nI (Qn c j a o)) ∧ (∀ a o, a < 5 → o < 10 → re (10 * a + o) = nI (Qn c j (a + 5) o))
theorem Qn_s (c : Nat → Nat) (j a o : Nat) : Qn c (j + 1) a o = Qn c j a o + (ej c a o j).toNat := ct_s _ _
theorem Qn_f {c : Nat → Nat} {j a o : Nat} (h : ej c a o j = false) : Qn c (j + 1) a o = Qn c j a o := by rw [Qn_s, h]; rfl
theorem Qn_t {c : Nat → Nat} {j a o : Nat} (h : ej c a o j = true) : Qn c (j + 1) a o = Qn c j a o + 1 := by rw [Qn_s, h]; rfl
theorem Nn_f {c : Nat → Nat} {j a : Nat} (h : ∀ o, o < 10 → ej c a o j = false) : Nn c (j + 1) a = Nn c j a := so_cong (fun o ho => by rw [Qn_f (h o ho)])
theorem Nn_t {c : Nat → Nat} {j a o : Nat} (ho : o < 10) (h1 : ej c a o j = true) (h : ∀ o', o' < 10 → o' ≠ o → ej c a o' j = false) : Nn c (j + 1) a = Nn c j a ||| 2 ^ o := by
  refine Nat.eq_of_testBit_eq (fun i => ?_)
  rw [orp_bit]
  unfold Nn
  rw [so_bit, so_bit]
  by_cases hi : i < 10
  · rw [decide_eq_true hi, Bool.true_and, Bool.true_and]
    by_cases e : o = i
    · subst e
      rw [Qn_t h1, decide_eq_true rfl, Bool.or_true]
      exact decide_eq_true (Nat.succ_ne_zero _)
    · rw [Qn_f (h i hi (fun q => e q.symm)), decide_eq_false e, Bool.or_false]
  · rw [decide_eq_false hi, Bool.false_and, Bool.false_and, decide_eq_false (by omega), Bool.false_or]
theorem LK_no {c : Nat → Nat} {j : Nat} {nb bo re : Nat → Int32} (h : ∀ a o, a < 10 → o < 10 → ej c a o j = false) (k : LK c j nb bo re) : LK c (j + 1) nb bo re := ⟨fun a ha => by rw [Nn_f (fun o ho => h a o ha ho)]; exact k.1 a ha, fun a o ha ho => by rw [Qn_f (h a o (by omega) ho)]; exact k.2.1 a o ha ho, fun a o ha ho => by rw [Qn_f (h (a + 5) o (by omega) ho)]; exact k.2.2 a o ha ho⟩
theorem LK_yes {c : Nat → Nat} {j a o : Nat} {nb bo re : Nat → Int32} (ha : a < 10) (ho : o < 10) (h1 : ej c a o j = true) (h : ∀ a' o', a' < 10 → o' < 10 → ¬ (a' = a ∧ o' = o) → ej c a' o' j = false) (k : LK c j nb bo re) : LK c (j + 1) (upd nb a (nb a ||| ((1 : Int32) <<< (nI o &&& 31)))) (upd bo (10 * (a % 5) + o) (bo (10 * (a % 5) + o) + (if a < 5 then 1 else 0))) (upd re (10 * (a % 5) + o) (re (10 * (a % 5) + o) + (if a < 5 then 0 else 1))) := by
  refine ⟨fun a' ha' => ?_, fun a' o' ha' ho' => ?_, fun a' o' ha' ho' => ?_⟩
  · by_cases e : a' = a
    · subst e
      rw [upI_s, k.1 a' ha', pI_bit (by omega), pI_or, Nn_t ho h1 (fun o' ho' hn => h a' o' ha' ho' (fun q => hn q.2))]
    · rw [upI_n e, k.1 a' ha', Nn_f (fun o' ho' => h a' o' ha' ho' (fun q => e q.1))]
  · by_cases e : 10 * a' + o' = 10 * (a % 5) + o
    · have e1 : a' = a % 5 := by omega
      have e2 : o' = o := by omega
      rw [e, upI_s, ← e, k.2.1 a' o' ha' ho']
      subst e2
      by_cases h5 : a < 5
      · rw [if_pos h5, show a' = a by omega, Qn_t h1]
        exact nI_add _ 1
      · rw [if_neg h5, I_add0, Qn_f (h a' o' (by omega) ho' (fun q => by omega))]
    · rw [upI_n e, k.2.1 a' o' ha' ho', Qn_f (h a' o' (by omega) ho' (fun q => by omega))]
  · by_cases e : 10 * a' + o' = 10 * (a % 5) + o
    · have e1 : a' = a % 5 := by omega
      have e2 : o' = o := by omega
      rw [e, upI_s, ← e, k.2.2 a' o' ha' ho']
      subst e2
      by_cases h5 : a < 5
      · rw [if_pos h5, I_add0, Qn_f (h (a' + 5) o' (by omega) ho' (fun q => by omega))]
      · rw [if_neg h5, show a' + 5 = a by omega, Qn_t h1]
        exact nI_add _ 1
    · rw [upI_n e, k.2.2 a' o' ha' ho', Qn_f (h (a' + 5) o' (by omega) ho' (fun q => by omega))]
def dR (w : Nat) : Int32 := if w = 0 then 1 else if w = 1 then -1 else 0
def dC (w : Nat) : Int32 := if w = 2 then 1 else if w = 3 then -1 else 0
theorem wayR {w : Nat} (hw : w < 4) {R : Int32 → Prop} (h : R (dR w)) : xj1 R (fun (J5 : Int32 → Prop) => ((¬ nI w = (0 : Int32) → ((¬ nI w = (1 : Int32) → J5 (0 : Int32)) ∧ (nI w = (1 : Int32) → J5 (-1 : Int32)))) ∧ (nI w = (0 : Int32) → J5 (1 : Int32)))) := by
  rcases (show w = 0 ∨ w = 1 ∨ w = 2 ∨ w = 3 by omega) with rfl | rfl | rfl | rfl
  · exact xj1_i (1 : Int32) (fun J hJ => ⟨fun a => absurd rfl a, fun _ => hJ⟩) h
  · exact xj1_i (-1 : Int32) (fun J hJ => ⟨fun _ => ⟨fun b => absurd rfl b, fun _ => hJ⟩, fun a => absurd a (by decide)⟩) h
  · exact xj1_i (0 : Int32) (fun J hJ => ⟨fun _ => ⟨fun _ => hJ, fun b => absurd b (by decide)⟩, fun a => absurd a (by decide)⟩) h
  · exact xj1_i (0 : Int32) (fun J hJ => ⟨fun _ => ⟨fun _ => hJ, fun b => absurd b (by decide)⟩, fun a => absurd a (by decide)⟩) h
theorem wayC {w : Nat} (hw : w < 4) {R : Int32 → Prop} (h : R (dC w)) : xj1 R (fun (J7 : Int32 → Prop) => ((¬ nI w = (2 : Int32) → ((¬ nI w = (3 : Int32) → J7 (0 : Int32)) ∧ (nI w = (3 : Int32) → J7 (-1 : Int32)))) ∧ (nI w = (2 : Int32) → J7 (1 : Int32)))) := by
  rcases (show w = 0 ∨ w = 1 ∨ w = 2 ∨ w = 3 by omega) with rfl | rfl | rfl | rfl
  · exact xj1_i (0 : Int32) (fun J hJ => ⟨fun _ => ⟨fun _ => hJ, fun b => absurd b (by decide)⟩, fun a => absurd a (by decide)⟩) h
  · exact xj1_i (0 : Int32) (fun J hJ => ⟨fun _ => ⟨fun _ => hJ, fun b => absurd b (by decide)⟩, fun a => absurd a (by decide)⟩) h
  · exact xj1_i (1 : Int32) (fun J hJ => ⟨fun a => absurd rfl a, fun _ => hJ⟩) h
  · exact xj1_i (-1 : Int32) (fun J hJ => ⟨fun _ => ⟨fun b => absurd rfl b, fun _ => hJ⟩, fun a => absurd a (by decide)⟩) h
theorem d5_raw : ∀ a, a < 10 → nI a - nI a / (5 : Int32) * (5 : Int32) = nI (a % 5) := by decide +kernel
theorem m2_neg : (-2 : Int32) < 0 := by decide
theorem xj3_all {α β γ : Type} {rest : α → β → γ → Prop} {tree : (α → β → γ → Prop) → Prop} (Q : α → β → γ → Prop) (h : ∀ J : α → β → γ → Prop, (∀ a b c, Q a b c → J a b c) → tree J) (r : ∀ a b c, Q a b c → rest a b c) : xj3 rest tree := h rest r
section LO
variable {land : Nat → Int64} {there : Int32} {near worn : Nat → Int32} {c t : Nat → Nat}
theorem cv_cases (r : RX land there near worn c t) {i : Nat} (hi : i < 36) {P : Int32 → Prop} (h0 : ∀ x : Int32, x < 0 → c i = 10 → P x) (h1 : ∀ o, o < 10 → c i = o → P (nI o)) : P (cv (c i)) := by
  have := r.1 i hi
  by_cases e : c i = 10
  · rw [e, cv10]; exact h0 _ (by decide) e
  · rw [cv_n (by omega)]; exact h1 _ (by omega) rfl
theorem nbr_cell (r : RX land there near worn c t) {k w : Nat} (hk : k < 36) (hw : w < 4) {P : Int32 → Prop} (h0 : ∀ x : Int32, x < 0 → nbr c k w = 10 → P x) (h1 : ∀ o, o < 10 → nbr c k w = o → P (nI o)) : q_L_cell (nI (k / 6) + dR w) (nI (k % 6) + dC w) land P := by
  rcases (show w = 0 ∨ w = 1 ∨ w = 2 ∨ w = 3 by omega) with rfl | rfl | rfl | rfl
  · rw [show nI (k / 6) + dR 0 = nI (k / 6 + 1) from nI_add _ 1, show nI (k % 6) + dC 0 = nI (k % 6) from I_add0 _]
    rw [nbr0] at h0 h1
    by_cases h : k < 30
    · rw [if_pos h] at h0 h1
      have := cell_in r (show k + 6 < 36 by omega) (P := P) (cv_cases r (by omega) h0 h1)
      rw [show (k + 6) / 6 = k / 6 + 1 by omega, show (k + 6) % 6 = k % 6 by omega] at this
      exact this
    · rw [if_neg h] at h0
      refine cell_spec r (fun _ => h0 _ m2_neg rfl) (fun a b ha hb e1 e2 => ?_)
      have := (nI_eq (by omega) (by omega)).mp e1
      omega
  · rw [show nI (k % 6) + dC 1 = nI (k % 6) from I_add0 _]
    rw [nbr1] at h0 h1
    by_cases h : 6 ≤ k
    · rw [if_pos h] at h0 h1
      have := cell_in r (show k - 6 < 36 by omega) (P := P) (cv_cases r (by omega) h0 h1)
      rw [show (k - 6) % 6 = k % 6 by omega] at this
      rw [show nI (k / 6) + dR 1 = nI ((k - 6) / 6) by rw [show k / 6 = (k - 6) / 6 + 1 by omega]; exact nI_m1 _]
      exact this
    · rw [if_neg h] at h0
      rw [show k / 6 = 0 by omega]
      refine cell_spec r (fun _ => h0 _ m2_neg rfl) (fun a b ha hb e1 e2 => ?_)
      exact absurd (show badX (nI a) by rw [← e1]; exact Or.inl (by decide)) (not_badX ha)
  · rw [show nI (k / 6) + dR 2 = nI (k / 6) from I_add0 _, show nI (k % 6) + dC 2 = nI (k % 6 + 1) from nI_add _ 1]
    rw [nbr2] at h0 h1
    by_cases h : k % 6 < 5
    · rw [if_pos h] at h0 h1
      have := cell_in r (show k + 1 < 36 by omega) (P := P) (cv_cases r (by omega) h0 h1)
      rw [show (k + 1) / 6 = k / 6 by omega, show (k + 1) % 6 = k % 6 + 1 by omega] at this
      exact this
    · rw [if_neg h] at h0
      refine cell_spec r (fun _ => h0 _ m2_neg rfl) (fun a b ha hb e1 e2 => ?_)
      have := (nI_eq (by omega) (by omega)).mp e2
      omega
  · rw [show nI (k / 6) + dR 3 = nI (k / 6) from I_add0 _]
    rw [nbr3] at h0 h1
    by_cases h : 0 < k % 6
    · rw [if_pos h] at h0 h1
      have := cell_in r (show k - 1 < 36 by omega) (P := P) (cv_cases r (by omega) h0 h1)
      rw [show (k - 1) / 6 = k / 6 by omega] at this
      rw [show nI (k % 6) + dC 3 = nI ((k - 1) % 6) by rw [show k % 6 = (k - 1) % 6 + 1 by omega]; exact nI_m1 _]
      exact this
    · rw [if_neg h] at h0
      rw [show k % 6 = 0 by omega]
      refine cell_spec r (fun _ => h0 _ m2_neg rfl) (fun a b ha hb e1 e2 => ?_)
      exact absurd (show badX (nI b) by rw [← e2]; exact Or.inl (by decide)) (not_badX hb)
theorem looks_81 (r : RX land there near worn c t) {k a : Nat} (hk : k < 36) (ha : a < 10) (hc : c k = a) {P0 : (Nat → Int32) → (Nat → Int32) → (Nat → Int32) → Prop} (h : ∀ nb bo re, LK c (4 * k + 4) nb bo re → P0 nb bo re) : ∀ (d w : Nat) (nb bo re : Nat → Int32), w + d = 4 → LK c (4 * k + w) nb bo re → q_L_looks_L81 (nI k) (nI a) land P0 (d + 1) (nI w) nb bo re := by
  intro d
  induction d with
  | zero =>
    intro w nb bo re hw hL
    rw [q_L_looks_L81]
    have : w = 4 := by omega
    subst this
    exact ⟨fun _ => h _ _ _ hL, fun q => absurd (show (4 : Int32) ≤ nI 4 by decide) q⟩
  | succ d ih =>
    intro w nb bo re hw hL
    rw [q_L_looks_L81]
    have hk6 := d6_raw k hk
    refine ⟨fun q => absurd q (nI_ge (b := 4) (by omega) (by decide)), fun _ => ⟨fun q => absurd q (nI_pos (by omega)), fun _ => wayR (by omega) (wayC (by omega) ?_)⟩⟩
    rw [hk6.1] at *
    rw [show nI k - nI (k / 6) * (6 : Int32) = nI (k % 6) from hk6.2, show nI w + (1 : Int32) = nI (w + 1) from nI_add w 1, d5_raw a ha, show (10 : Int32) * nI (a % 5) = nI (10 * (a % 5)) from pI_mul 10 _]
    have hno : (∀ a' o', a' < 10 → o' < 10 → ej c a' o' (4 * k + w) = false) → q_L_looks_L81 (nI k) (nI a) land P0 (d + 1) (nI (w + 1)) nb bo re := fun e => ih (w + 1) nb bo re (by omega) (LK_no e hL)
    refine nbr_cell r hk (by omega) (fun x hx e => ⟨fun _ => hno (fun a' o' _ ho' => ?_), fun q => absurd hx q⟩) (fun o ho e => ⟨fun q => absurd q (nI_pos (by omega)), fun _ => ⟨fun q => hno (fun a' o' _ ho' => ?_), fun q => ?_⟩⟩)
    · rw [ej_at (by omega)]
      exact decide_eq_false (fun q => by omega)
    · have q := (nI_eq (by omega) (by omega)).mp q
      rw [ej_at (by omega)]
      exact decide_eq_false (fun q2 => by omega)
    · have hoa : o ≠ a := fun e2 => q (by rw [e2])
      have hi : xin (nI a) 10 = true := xin_nI ha (by decide)
      have hI : 10 * (a % 5) + o < 50 := by omega
      have hI2 : xin (nI (10 * (a % 5) + o)) 50 = true := xin_nI hI (by decide)
      rw [nI_add, nI_clamp (n := a) (by omega), nI_clamp (n := 10 * (a % 5) + o) (by omega)]
      have ht : ej c a o (4 * k + w) = true := by
        rw [ej_at (by omega)]
        exact decide_eq_true ⟨hc, e, hoa⟩
      have hu : ∀ a' o', a' < 10 → o' < 10 → ¬ (a' = a ∧ o' = o) → ej c a' o' (4 * k + w) = false := fun a' o' _ _ hn => by
        rw [ej_at (by omega)]
        exact decide_eq_false (fun q2 => hn ⟨by omega, by omega⟩)
      have key := LK_yes ha ho ht hu hL
      by_cases h5 : a < 5
      · rw [if_pos h5, if_pos h5] at key
        refine ⟨hi, hi, hI2, xj1_i (1 : Int32) (fun J hJ => ⟨fun q => absurd q (nI_ge (b := 5) h5 (by decide)), fun _ => hJ⟩) ⟨hI2, hI2, fun q => absurd q (nI_ge (b := 5) h5 (by decide)), fun _ => ⟨hI2, ih (w + 1) _ _ _ (by omega) key⟩⟩⟩
      · rw [if_neg h5, if_neg h5] at key
        refine ⟨hi, hi, hI2, xj1_i (0 : Int32) (fun J hJ => ⟨fun _ => hJ, fun q => absurd (nI_le (a := 5) (b := a) (by omega) (by omega)) q⟩) ⟨hI2, hI2, fun _ => ⟨hI2, ih (w + 1) _ _ _ (by omega) key⟩, fun q => absurd (nI_le (a := 5) (b := a) (by omega) (by omega)) q⟩⟩
def ar9 (c : Nat → Nat) (k a : Nat) : Nat := ct (fun i => decide (c i = a)) k
theorem ar9_s (c : Nat → Nat) (k a : Nat) : ar9 c (k + 1) a = ar9 c k a + (decide (c k = a)).toNat := ct_s _ _
theorem looks_40 (r : RX land there near worn c t) {P0 P1 : (Nat → Int32) → (Nat → Int32) → (Nat → Int32) → (Nat → Int32) → Prop} (h : ∀ nb ar bo re, LK c 144 nb bo re → (∀ a, a < 10 → ar a = nI (ar9 c 36 a)) → P0 nb ar bo re) : ∀ (d k : Nat) (nb ar bo re : Nat → Int32), k + d = 36 → LK c (4 * k) nb bo re → (∀ a, a < 10 → ar a = nI (ar9 c k a)) → q_L_looks_L40 land P0 P1 (d + 1) (nI k) nb ar bo re := by
  intro d
  induction d with
  | zero =>
    intro k nb ar bo re hk hL hA
    rw [q_L_looks_L40]
    have : k = 36 := by omega
    subst this
    exact ⟨fun _ => h _ _ _ _ hL hA, fun q => absurd (show (36 : Int32) ≤ nI 36 by decide) q⟩
  | succ d ih =>
    intro k nb ar bo re hk hL hA
    rw [q_L_looks_L40]
    have hk6 := d6_raw k (by omega)
    refine ⟨fun q => absurd q (ge36 (by omega)), fun _ => ?_⟩
    rw [hk6.1] at *
    rw [show nI k - nI (k / 6) * (6 : Int32) = nI (k % 6) from hk6.2, show nI k + (1 : Int32) = nI (k + 1) from nI_add k 1]
    have hb := r.1 k (by omega)
    refine cell_in r (by omega) ?_
    by_cases e : c k = 10
    · rw [e, cv10]
      refine ⟨fun q => absurd q (by decide), fun _ => ⟨fun _ => ?_, fun q => absurd (show (-1 : Int32) ≤ 9 by decide) q⟩⟩
      refine xj3_all (fun a b g => a = nb ∧ b = bo ∧ g = re) (fun J hJ => ⟨1, ?_⟩) (fun a b g q => ?_)
      · rw [q_L_looks_L81]
        exact ⟨fun q => absurd q (by decide), fun _ => ⟨fun _ => hJ _ _ _ ⟨rfl, rfl, rfl⟩, fun q => absurd (show (-1 : Int32) < 0 by decide) q⟩⟩
      · obtain ⟨rfl, rfl, rfl⟩ := q
        refine xj1_i (0 : Int32) (fun J hJ => ⟨fun q => absurd q (by decide), fun _ => hJ⟩) ⟨by decide, fun q => absurd q (by decide), fun _ => ⟨by decide, ?_⟩⟩
        have z : ∀ w, w < 4 → ∀ a o, a < 10 → o < 10 → ej c a o (4 * k + w) = false := fun w hw a o ha ho => by
          rw [ej_at hw]
          exact decide_eq_false (fun q => by omega)
        refine ih (k + 1) _ _ _ _ (by omega) (LK_no (z 3 (by decide)) (LK_no (z 2 (by decide)) (LK_no (z 1 (by decide)) (LK_no (z 0 (by decide)) hL)))) (fun a ha => ?_)
        rw [ar9_s, decide_eq_false (show ¬ c k = a by omega)]
        show upd ar 0 (ar 0 + 0) a = nI (ar9 c k a + 0)
        by_cases q : a = 0
        · subst q
          rw [upI_s, hA 0 ha, I_add0, Nat.add_zero]
        · rw [upI_n q, hA a ha, Nat.add_zero]
    · obtain ⟨a0, ha0⟩ : ∃ a0, c k = a0 := ⟨_, rfl⟩
      have ha : a0 < 10 := by omega
      rw [ha0, cv_n ha]
      refine ⟨fun q => absurd q (fun q => absurd (show nI a0 < 0 by rw [Int32.lt_iff_toInt_lt] at q ⊢; have h1 : (-1 : Int32).toInt = -1 := rfl; have h2 : (0 : Int32).toInt = 0 := rfl; omega) (nI_pos (by omega))), fun _ => ⟨fun _ => ?_, fun q => absurd (nI_le (b := 9) (a := a0) (by omega) (by decide)) q⟩⟩
      refine xj3_all (fun a b g => LK c (4 * k + 4) a b g) (fun J hJ => ⟨5, looks_81 r (by omega) ha ha0 hJ 4 0 nb bo re rfl hL⟩) (fun x b g q => ?_)
      have hx : xin (nI a0) 10 = true := xin_nI ha (by decide)
      refine xj1_i (nI a0) (fun J hJ => ⟨fun _ => hJ, fun q => absurd (nI_pos' (by omega)) q⟩) ⟨hx, fun _ => ⟨hx, ?_⟩, fun q => absurd (nI_pos' (by omega)) q⟩
      rw [nI_clamp (n := a0) (by omega)]
      refine ih (k + 1) _ _ _ _ (by omega) q (fun a ha' => ?_)
      rw [ar9_s]
      by_cases q : a = a0
      · subst q
        rw [upI_s, hA a ha', decide_eq_true ha0]
        exact nI_add _ 1
      · rw [upI_n q, hA a ha', decide_eq_false (show ¬ c k = a by omega)]
        rfl
end LO
