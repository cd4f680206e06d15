/-! the law's small methods: many, low, cell, at; encloses -/
theorem pL_tb {s k : Nat} (hs : s < 2 ^ 36) (hk : k < 63) : (xlshr (lN s) (nI k)) &&& (1 : Int64) = lN (s.testBit k).toNat := by
  rw [pL_shr' hk (by omega), show (1 : Int64) = lN 1 from rfl, pL_and, Nat.and_one_is_mod, Nat.testBit_eq_decide_div_mod_eq]
  by_cases e : s / 2 ^ k % 2 = 1
  · rw [e]; rfl
  · rw [show s / 2 ^ k % 2 = 0 by omega]; rfl
theorem tbL0 {s k : Nat} (hs : s < 2 ^ 36) (hk : k < 63) : (lg_cmp ((xlshr (lN s) (nI k)) &&& (1 : Int64)) (0 : Int64)) = (0 : Int32) ↔ s.testBit k = false := by
  rw [pL_tb hs hk, pcmp]
  cases s.testBit k
  · exact ⟨fun _ => rfl, fun _ => rfl⟩
  · exact ⟨fun q => absurd q (by decide), fun q => by cases q⟩
theorem tbL1 {s k : Nat} (hs : s < 2 ^ 36) (hk : k < 63) : (lg_cmp ((xlshr (lN s) (nI k)) &&& (1 : Int64)) (1 : Int64)) = (0 : Int32) ↔ s.testBit k = true := by
  rw [pL_tb hs hk, pcmp]
  cases s.testBit k
  · exact ⟨fun q => absurd q (by decide), fun q => by cases q⟩
  · exact ⟨fun _ => rfl, fun _ => rfl⟩
theorem pI_tbv {a k : Nat} (ha : a < 1024) (hk : k < 10) : ((nI a >>> (nI k &&& 31)) &&& (1 : Int32)) = nI (a.testBit k).toNat := by
  cases e : a.testBit k
  · exact (pI_tb0 ha hk).mpr e
  · exact (pI_tb ha hk).mpr e
theorem ct_s (p : Nat → Bool) (n : Nat) : ct p (n + 1) = ct p n + (p n).toNat := by
  rw [ct]
  cases p n <;> rfl
theorem many_L {a : Nat} (ha : a < 1024) {P0 : Int32 → Prop} (h : P0 (nI (ct a.testBit 10))) : ∀ (d k : Nat), k + d = 10 → q_L_many_L4 (nI a) P0 (d + 1) (nI (ct a.testBit k)) (nI k) := by
  intro d
  induction d with
  | zero =>
    intro k hk
    rw [q_L_many_L4]
    have : k = 10 := by omega
    subst this
    exact ⟨fun _ => h, fun q => absurd (show (10 : Int32) ≤ nI 10 by decide) q⟩
  | succ d ih =>
    intro k hk
    rw [q_L_many_L4]
    refine ⟨fun q => absurd q (ge10 (by omega)), fun _ => xl_i ?_⟩
    rw [pI_tbv ha (by omega), nI_add, show nI k + (1 : Int32) = nI (k + 1) from nI_add k 1, ← ct_s]
    exact ih (k + 1) (by omega)
theorem many_spec {a : Nat} (ha : a < 1024) {P : Int32 → Prop} (h : P (nI (pc a))) : q_L_many (nI a) P := ⟨11, many_L ha (by rw [← pc_n ha (by decide)]; exact h) 10 0 rfl⟩
theorem rem_eq {x : Int32} {n : Nat} (hx : 0 ≤ x) (h0 : 0 < n) (hn : n < 2 ^ 31) : ∃ v, v < n ∧ x - x / nI n * nI n = nI v := by
  obtain ⟨a, ha, rfl⟩ : ∃ a : Nat, a < 2 ^ 31 ∧ x = nI a := by
    rw [Int32.le_iff_toInt_le] at hx
    refine ⟨x.toInt.toNat, ?_, ?_⟩
    · have := x.toInt_lt
      have h2 : (0 : Int32).toInt = 0 := rfl
      omega
    · apply Int32.toInt_inj.mp
      have h2 : (0 : Int32).toInt = 0 := rfl
      have := x.toInt_lt
      show x.toInt = (Int32.ofNat x.toInt.toNat).toInt
      rw [Int32.toInt_ofNat_of_lt (by omega)]
      omega
  refine ⟨a % n, Nat.mod_lt _ h0, ?_⟩
  have e1 : nI a / nI n = nI (a / n) := by
    apply Int32.toInt_inj.mp
    show (Int32.ofNat a / Int32.ofNat n).toInt = (Int32.ofNat (a / n)).toInt
    rw [Int32.toInt_div_of_ne_right _ _ (by
      intro e
      have := congrArg Int32.toInt e
      rw [Int32.toInt_ofNat_of_lt hn] at this
      have h3 : (-1 : Int32).toInt = -1 := rfl
      omega), Int32.toInt_ofNat_of_lt ha, Int32.toInt_ofNat_of_lt hn, Int32.toInt_ofNat_of_lt (Nat.lt_of_le_of_lt (Nat.div_le_self _ _) ha)]
    exact (Int.ofNat_tdiv a n).symm
  rw [e1, pI_mul, pI_sub (Nat.div_mul_le_self a n)]
  congr 1
  have := Nat.div_add_mod a n
  rw [Nat.mul_comm] at this
  omega
theorem pos_mask (x : Int32) : 0 ≤ x &&& (2147483647 : Int32) := by
  rw [Int32.le_iff_toInt_le]
  have : (x &&& (2147483647 : Int32)).toBitVec.msb = false := by
    rw [Int32.toBitVec_and, BitVec.msb_and]
    have : (2147483647 : Int32).toBitVec.msb = false := by decide
    rw [this, Bool.and_false]
  show (0 : Int32).toBitVec.toInt ≤ (x &&& (2147483647 : Int32)).toBitVec.toInt
  rw [BitVec.toInt_eq_msb_cond (x &&& (2147483647 : Int32)).toBitVec, this]
  simp
theorem low_spec (x : Int32) {n : Nat} (h0 : 0 < n) (hn : n < 2 ^ 31) {P : Int32 → Prop} (h : ∀ v, v < n → P (nI v)) : q_L_low x (nI n) P := by
  refine ⟨fun e => ?_, ?_⟩
  · have := (nI_eq (by omega) (by decide)).mp (e.trans pI_0.symm)
    omega
  · obtain ⟨v, hv, e⟩ := rem_eq (pos_mask x) h0 hn
    rw [e]
    exact h v hv
theorem at_spec {L : Nat} {xs : Nat → Int32} (hL : L < 2 ^ 31) {k : Nat} (hk : k < 2 ^ 31) {P : Int32 → Prop} (h : ∀ x, P x) : q_L_at L xs (nI k) P := ⟨fun q => ⟨xin_nI ((nI_ltI hk hL).mp q) hL, h _⟩, fun _ => h _⟩
section SM
variable {land : Nat → Int64} {there : Int32} {near worn : Nat → Int32} {c t : Nat → Nat}
theorem cell_spec (r : RX land there near worn c t) {p q : Int32} {P : Int32 → Prop} (h0 : badX p ∨ badX q → P (-2)) (h1 : ∀ k j, k < 6 → j < 6 → p = nI k → q = nI j → P (cv (c (6 * k + j)))) : q_L_cell p q land P := by
  unfold q_L_cell
  rcases allX p with hp | ⟨k, hk, rfl⟩
  · have g := h0 (Or.inl hp)
    refine ⟨fun _ => g, fun a => ⟨fun _ => g, fun b => ?_⟩⟩
    rcases bx5 hp with hp | hp
    · exact absurd hp a
    · exact absurd hp b
  · refine ⟨fun a => absurd a (nI_pos (by omega)), fun _ => ⟨fun a => absurd a (nI_nlt (a := 5) (by omega) (by decide)), fun _ => ?_⟩⟩
    rcases allX q with hq | ⟨j, hj, rfl⟩
    · have g := h0 (Or.inr hq)
      refine ⟨fun _ => g, fun a => ⟨fun b => ?_, fun _ => g⟩⟩
      rcases bx5 hq with hq | hq
      · exact absurd hq a
      · exact (le_ltA b hq).elim
    · refine ⟨fun a => absurd a (nI_pos (by omega)), fun _ => ⟨fun _ => z_countryAt r hk hj (h1 k j hk hj rfl rfl), fun a => absurd (nI_le (b := 5) (by omega) (by decide)) a⟩⟩
theorem cell_in (r : RX land there near worn c t) {k : Nat} (hk : k < 36) {P : Int32 → Prop} (h : P (cv (c k))) : q_L_cell (nI (k / 6)) (nI (k % 6)) land P := by
  refine cell_spec r (fun q => ?_) (fun a b ha hb e1 e2 => ?_)
  · exact (q.elim (fun q => not_badX (by omega) q) (fun q => not_badX (by omega) q)).elim
  · have := (nI_eq (by omega) (by omega)).mp e1
    have := (nI_eq (by omega) (by omega)).mp e2
    rw [show 6 * a + b = k by omega]
    exact h
/-- an edge, or beside a cell of s -/
def nxt (s k : Nat) : Bool := (decide (k / 6 % 5 = 0) || decide (k % 6 % 5 = 0)) || ((s.testBit (k - 6) || s.testBit (k + 6)) || (s.testBit (k - 1) || s.testBit (k + 1)))
def es (c : Nat → Nat) (u s k : Nat) : Nat := if (!s.testBit k && (nxt s k && decide (c k ≠ u))) = true then s ||| 2 ^ k else s
def er (c : Nat → Nat) (u : Nat) : Nat → Nat → Nat → Nat
  | 0, _, s => s
  | d + 1, k, s => er c u d (k + 1) (es c u s k)
def em (c : Nat → Nat) (u : Nat) : Nat → Nat → Nat → Nat → Nat
  | 0, _, _, m => m
  | d + 1, k, s, m => em c u d (k + 1) (es c u s k) (if (!s.testBit k && (nxt s k && decide (c k ≠ u))) = true then 1 else m)
theorem es_lt {u s k : Nat} (hs : s < 2 ^ 36) (hk : k < 36) : es c u s k < 2 ^ 36 := by
  unfold es
  split
  · exact or_lt hs (Nat.pow_lt_pow_right (by decide) hk)
  · exact hs
theorem e5_raw : ∀ j, j < 6 → (nI j - nI j / (5 : Int32) * (5 : Int32) = (0 : Int32) ↔ j % 5 = 0) := by decide +kernel
theorem enc_nx {s k : Nat} (hs : s < 2 ^ 36) (hk : k < 36) {R : Int32 → Prop} (h1 : nxt s k = true → R 1) (h0 : nxt s k = false → R 0) : xj1 (fun (v4 : Int32) => xj1 R (fun (J5 : Int32 → Prop) => xj0 (J5 (1 : Int32)) (fun (J9 : Prop) => ((¬ v4 = (0 : Int32) → J9) ∧ (v4 = (0 : Int32) → (((lg_cmp ((xlshr (lN s) (nI k - (6 : Int32))) &&& (1 : Int64)) (1 : Int64)) = (0 : Int32) → J9) ∧ (¬ (lg_cmp ((xlshr (lN s) (nI k - (6 : Int32))) &&& (1 : Int64)) (1 : Int64)) = (0 : Int32) → (((lg_cmp ((xlshr (lN s) (nI k + (6 : Int32))) &&& (1 : Int64)) (1 : Int64)) = (0 : Int32) → J9) ∧ (¬ (lg_cmp ((xlshr (lN s) (nI k + (6 : Int32))) &&& (1 : Int64)) (1 : Int64)) = (0 : Int32) → (((lg_cmp ((xlshr (lN s) (nI k - (1 : Int32))) &&& (1 : Int64)) (1 : Int64)) = (0 : Int32) → J9) ∧ (¬ (lg_cmp ((xlshr (lN s) (nI k - (1 : Int32))) &&& (1 : Int64)) (1 : Int64)) = (0 : Int32) → ((¬ (lg_cmp ((xlshr (lN s) (nI (k + 1))) &&& (1 : Int64)) (1 : Int64)) = (0 : Int32) → J5 (0 : Int32)) ∧ ((lg_cmp ((xlshr (lN s) (nI (k + 1))) &&& (1 : Int64)) (1 : Int64)) = (0 : Int32) → J9))))))))))))) (fun (J3 : Int32 → Prop) => xj0 (J3 (1 : Int32)) (fun (J10 : Prop) => (((nI (k / 6) - nI (k / 6) / (5 : Int32) * (5 : Int32)) = (0 : Int32) → J10) ∧ (¬ (nI (k / 6) - nI (k / 6) / (5 : Int32) * (5 : Int32)) = (0 : Int32) → ((¬ (nI (k % 6) - nI (k % 6) / (5 : Int32) * (5 : Int32)) = (0 : Int32) → J3 (0 : Int32)) ∧ ((nI (k % 6) - nI (k % 6) / (5 : Int32) * (5 : Int32)) = (0 : Int32) → J10)))))) := by
  rw [e5_raw (k / 6) (by omega), e5_raw (k % 6) (by omega)]
  by_cases he : k / 6 % 5 = 0 ∨ k % 6 % 5 = 0
  · have hn : nxt s k = true := by
      unfold nxt
      rcases he with he | he <;> simp [he]
    refine xj1_i (1 : Int32) (fun J hJ => xj0_i (fun J2 h2 => ⟨fun _ => h2, fun a => ⟨fun b => absurd he (fun q => q.elim a b), fun _ => h2⟩⟩) hJ) ?_
    exact xj1_i (1 : Int32) (fun J hJ => xj0_i (fun J2 h2 => ⟨fun _ => h2, fun a => absurd a (by decide)⟩) hJ) (h1 hn)
  · have hk7 : 7 ≤ k ∧ k ≤ 28 := by omega
    have hn : nxt s k = ((s.testBit (k - 6) || s.testBit (k + 6)) || (s.testBit (k - 1) || s.testBit (k + 1))) := by
      unfold nxt
      rw [decide_eq_false (fun q => he (Or.inl q)), decide_eq_false (fun q => he (Or.inr q)), Bool.false_or, Bool.false_or]
    refine xj1_i (0 : Int32) (fun J hJ => xj0_u (fun J2 => ⟨fun a => absurd (Or.inl a) he, fun _ => ⟨fun _ => hJ, fun a => absurd (Or.inr a) he⟩⟩)) ?_
    rw [show nI k - (6 : Int32) = nI (k - 6) from pI_sub (b := 6) (by omega), show nI k - (1 : Int32) = nI (k - 1) from pI_sub (b := 1) (by omega), show nI k + (6 : Int32) = nI (k + 6) from nI_add k 6, tbL1 hs (by omega), tbL1 hs (by omega), tbL1 hs (by omega), tbL1 hs (by omega)]
    by_cases hx : nxt s k = true
    · refine xj1_i (1 : Int32) (fun J hJ => xj0_i (fun J2 h2 => ⟨fun a => absurd rfl a, fun _ => ⟨fun _ => h2, fun a1 => ⟨fun _ => h2, fun a2 => ⟨fun _ => h2, fun a3 => ⟨fun a4 => ?_, fun _ => h2⟩⟩⟩⟩⟩) hJ) (h1 hx)
      exfalso
      rw [hn, bfalse a1, bfalse a2, bfalse a3, bfalse a4] at hx
      cases hx
    · have hx := bfalse hx
      have hf := hn.symm.trans hx
      rw [bor_f, bor_f, bor_f] at hf
      obtain ⟨⟨f1, f2⟩, f3, f4⟩ := hf
      refine xj1_i (0 : Int32) (fun J hJ => xj0_u (fun J2 => ⟨fun a => absurd rfl a, fun _ => ⟨fun a => ?_, fun _ => ⟨fun a => ?_, fun _ => ⟨fun a => ?_, fun _ => ⟨fun _ => hJ, fun a => ?_⟩⟩⟩⟩⟩)) (h0 hx)
      · rw [f1] at a; cases a
      · rw [f2] at a; cases a
      · rw [f3] at a; cases a
      · rw [f4] at a; cases a
theorem enc_16 (r : RX land there near worn c t) {u : Nat} (hu : u < 10) {P0 : Int64 → Int32 → Prop} : ∀ (d k s m : Nat), k + d = 36 → s < 2 ^ 36 → P0 (lN (er c u d k s)) (nI (em c u d k s m)) → q_L_encloses_L16 (nI u) land P0 (d + 1) (lN s) (nI m) (nI k) := by
  intro d
  induction d with
  | zero =>
    intro k s m hk hs h
    rw [q_L_encloses_L16]
    have : k = 36 := by omega
    subst this
    exact ⟨fun _ => h, fun q => absurd (show (36 : Int32) ≤ nI 36 by decide) q⟩
  | succ d ih =>
    intro k s m hk hs h
    rw [q_L_encloses_L16]
    have hk6 := d6_raw k (by omega)
    refine ⟨fun q => absurd q (ge36 (by omega)), fun _ => xl_i (xl_i ?_)⟩
    rw [hk6.1] at *
    rw [show nI k - nI (k / 6) * (6 : Int32) = nI (k % 6) from hk6.2, show nI k + (1 : Int32) = nI (k + 1) from nI_add k 1]
    have hno : (!s.testBit k && (nxt s k && decide (c k ≠ u))) = false → q_L_encloses_L16 (nI u) land P0 (d + 1) (lN s) (nI m) (nI (k + 1)) := fun e => ih (k + 1) s m (by omega) hs (by
      rw [er, em, es, e] at h
      exact h)
    refine enc_nx hs (show k < 36 by omega) (fun hx => ?_) (fun hx => ?_)
    · show _ ∧ _
      rw [tbL0 hs (by omega)]
      refine ⟨fun a => hno ?_, fun a => ⟨fun q => absurd q (by decide), fun _ => cell_in r (by omega) ⟨fun e => hno ?_, fun e => xl_i ?_⟩⟩⟩
      · rw [show s.testBit k = true by cases q : s.testBit k; exact absurd q a; rfl]; rfl
      · rw [show c k = u from (cv_eq (r.1 k (by omega)) hu).mp e]
        simp
      · rw [pL_bit (by omega), pL_or]
        have e1 : (!s.testBit k && (nxt s k && decide (c k ≠ u))) = true := by
          have hne : c k ≠ u := fun q => e (by rw [q]; exact cv_n hu)
          rw [a, hx]
          simp [hne]
        exact ih (k + 1) _ 1 (by omega) (or_lt hs (Nat.pow_lt_pow_right (by decide) (by omega))) (by
          rw [er, em, es, e1, if_pos rfl, if_pos rfl] at h
          exact h)
    · show _ ∧ _
      rw [tbL0 hs (by omega)]
      have e0 : (!s.testBit k && (nxt s k && decide (c k ≠ u))) = false := by rw [hx]; simp
      exact ⟨fun a => hno e0, fun a => ⟨fun _ => hno e0, fun q => absurd rfl q⟩⟩
end SM
