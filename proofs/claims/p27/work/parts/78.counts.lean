/-! numbers of tintings against the fewest tints, the neighbours and one another -/
theorem lN_leI {a b : Nat} (ha : a < 2 ^ 63) (hb : b < 2 ^ 63) : lN a ≤ lN b ↔ a ≤ b := by
  rw [Int64.le_iff_toInt_le, pL_toInt ha, pL_toInt hb]
  omega
theorem lN_ltI {a b : Nat} (ha : a < 2 ^ 63) (hb : b < 2 ^ 63) : lN a < lN b ↔ a < b := by
  rw [Int64.lt_iff_toInt_lt, pL_toInt ha, pL_toInt hb]
  omega
theorem rem_L {k m : Nat} (h0 : 0 < k) (hk : k < 2 ^ 31) (hm : k * m < 2 ^ 63) : ¬ (nI k).toInt64 = 0 ∧ lN (k * m) - lN (k * m) / (nI k).toInt64 * (nI k).toInt64 = 0 := by
  rw [nI_l hk]
  refine ⟨fun q => ?_, ?_⟩
  · have := (pL_eq0 (a := k) (by omega)).mp q
    omega
  · have e : lN (k * m) / lN k = lN m := by
      apply Int64.toInt_inj.mp
      have hm2 : m < 2 ^ 63 := Nat.lt_of_le_of_lt (Nat.le_mul_of_pos_left m h0) hm
      rw [lg_ldiv_nonneg (by rw [pL_toInt hm]; omega) (by rw [pL_toInt (by omega)]; omega), pL_toInt hm, pL_toInt (by omega), pL_toInt hm2, Int.natCast_mul, Int.mul_ediv_cancel_left _ (by omega)]
    rw [e, show lN m * lN k = lN (m * k) from (Int64.ofNat_mul m k).symm, Nat.mul_comm m k, pL_sub (Nat.le_refl _), Nat.sub_self]
    rfl
section CNT
variable {n : Nat → Nat}
theorem sb_0 {S : Nat} {h : Nat → Nat} : ∀ m, h 0 ≤ sb S m h := by
  intro m
  induction m with
  | zero => exact Nat.le_refl _
  | succ m ih => rw [sb]; omega
theorem rr_up (n : Nat → Nat) (t S : Nat) : rr n t S ≤ rr n (t + 1) S := by
  rw [rr]
  have := sb_0 (S := S) (h := fun A => if idb n A = true then rr n t (mi S A) else 0) 10
  have e : idb n 0 = true := (idb_iff (by decide)).mpr (fun i j _ _ h => by rw [Nat.zero_testBit] at h; cases h)
  have e2 : mi S 0 = S := by unfold mi; rw [Nat.and_zero, Nat.xor_zero]
  rw [if_pos e, e2] at this
  exact this
theorem rr_div {t S v : Nat} (hv : v < 10) (h : S.testBit v = true) : ∃ m, rr n (t + 1) S = (t + 1) * m := ⟨_, rr_first n hv t S h⟩
theorem rr_pos (g : Gr n) {f S : Nat} (hS : S < 1024) (h1 : rr n f S ≠ 0) (h0 : ∀ k, k < f → rr n k S = 0) (k : Nat) : rr n k S ≠ 0 ↔ f ≤ k := by
  refine ⟨fun q => Nat.le_of_not_lt fun h => q (h0 k h), fun q => ?_⟩
  obtain ⟨col, c1, c2⟩ := (rr_col g f S hS).mp h1
  exact (rr_col g k S hS).mpr ⟨col, fun i hi hs => ⟨(c1 i hi hs).1, Nat.le_trans (c1 i hi hs).2 q⟩, c2⟩
theorem ct_le1 {q : Nat → Bool} : ∀ {m : Nat}, (∀ i j, i < m → j < m → q i = true → q j = true → i = j) → ct q m ≤ 1 := by
  intro m
  induction m with
  | zero => intro _; exact Nat.zero_le _
  | succ m ih =>
    intro h
    rw [ct_s]
    cases e : q m
    · have := ih (fun i j hi hj => h i j (by omega) (by omega))
      show ct q m + 0 ≤ 1
      omega
    · have : ct q m = 0 := ct_zero.mpr (fun i hi => bfalse (fun a => by
        have := h i m (by omega) (by omega) a e
        omega))
      rw [this]
      exact Nat.le_refl _
theorem sm_one {a : Nat} : ∀ {f : Nat}, a < f → sm (fun v => (decide (a = v)).toNat) f = 1 := by
  intro f
  induction f with
  | zero => intro h; exact absurd h (Nat.not_lt_zero a)
  | succ f ih =>
    intro h
    rw [sm]
    by_cases e : a = f
    · subst e
      rw [decide_eq_true rfl, sm_zero (fun v hv => by rw [decide_eq_false (by omega)]; rfl)]
      rfl
    · rw [ih (by omega), decide_eq_false e]
      rfl
theorem ct_img {p : Nat → Bool} {col : Nat → Nat} {f : Nat} : ∀ {m : Nat}, (∀ j, j < m → p j = true → 1 ≤ col j ∧ col j ≤ f) → ct p m = sm (fun v => ct (fun j => p j && decide (col j = v + 1)) m) f := by
  intro m
  induction m with
  | zero => intro _; exact (sm_zero (fun v _ => rfl)).symm
  | succ m ih =>
    intro h
    rw [ct_s, ih (fun j hj => h j (by omega))]
    have e : sm (fun v => ct (fun j => p j && decide (col j = v + 1)) (m + 1)) f = sm (fun v => ct (fun j => p j && decide (col j = v + 1)) m + (p m && decide (col m = v + 1)).toNat) f := sm_cong (fun v _ => ct_s _ _)
    rw [e, sm_add]
    congr 1
    cases q : p m
    · exact (sm_zero (fun v _ => rfl)).symm
    · obtain ⟨h1, h2⟩ := h m (by omega) q
      have := sm_one (a := col m - 1) (f := f) (by omega)
      rw [sm_cong (g := fun v => (decide (col m - 1 = v)).toNat) (fun v hv => by
        rw [Bool.true_and]
        congr 1
        exact decide_eq_decide.mpr ⟨fun x => by omega, fun x => by omega⟩), this]
      rfl
theorem inj_le {p : Nat → Bool} {col : Nat → Nat} {f m : Nat} (h1 : ∀ j, j < m → p j = true → 1 ≤ col j ∧ col j ≤ f) (h2 : ∀ i j, i < m → j < m → p i = true → p j = true → i ≠ j → col i ≠ col j) : ct p m ≤ f := by
  rw [ct_img h1]
  have := sm_le (f := fun v => ct (fun j => p j && decide (col j = v + 1)) m) (b := 1) (n := f) (fun v _ => ct_le1 (fun i j hi hj a b => by
    rw [Bool.and_eq_true, decide_eq_true_eq] at a b
    exact Classical.byContradiction fun hn => h2 i j hi hj a.1 b.1 hn (a.2.trans b.2.symm)))
  omega
theorem clq_few (g : Gr n) {f th : Nat} (hth : th < 1024) (h1 : rr n f th ≠ 0) : ∀ s, s ≤ 1024 → mq n th s ≤ f := by
  obtain ⟨col, c1, c2⟩ := (rr_col g f th hth).mp h1
  intro s
  induction s with
  | zero => intro _; exact Nat.zero_le _
  | succ s ih =>
    intro hs
    rw [mq]
    split
    · rename_i e
      rw [Bool.and_eq_true, decide_eq_true_eq] at e
      have hsub := (wi_mi (A := s) (S := th) (by omega)).mpr e.1
      have hcl := (clb_iff (by omega)).mp e.2
      refine Nat.max_le.mpr ⟨ih (by omega), ?_⟩
      rw [pc_n (n := 10) (show s < 2 ^ 10 by omega) (by decide)]
      exact inj_le (col := col) (fun j hj a => c1 j hj (hsub j a)) (fun i j hi hj a b hn => c2 i j hi hj (hsub i a) (hsub j b) (hcl i j hi hj a b hn))
    · exact ih (by omega)
def mo9 (n : Nat → Nat) : Nat → Nat
  | 0 => 0
  | k + 1 => max (mo9 n k) (pc (n k))
theorem mo9_ge : ∀ {m k : Nat}, k < m → pc (n k) ≤ mo9 n m := by
  intro m
  induction m with
  | zero => intro k h; exact absurd h (Nat.not_lt_zero k)
  | succ m ih =>
    intro k h
    rw [mo9]
    by_cases e : k = m
    · subst e; exact Nat.le_max_right _ _
    · exact Nat.le_trans (ih (by omega)) (Nat.le_max_left _ _)
theorem mo9_le (hg : ∀ k, k < 10 → n k < 1024) : ∀ m, m ≤ 10 → mo9 n m ≤ 10 := by
  intro m
  induction m with
  | zero => intro _; exact Nat.zero_le _
  | succ m ih =>
    intro h
    rw [mo9]
    exact Nat.max_le.mpr ⟨ih (by omega), pc_10 (hg m (by omega))⟩
theorem clq_mo {th : Nat} : ∀ s, s ≤ 1024 → mq n th s ≤ mo9 n 10 + 1 := by
  intro s
  induction s with
  | zero => intro _; exact Nat.zero_le _
  | succ s ih =>
    intro hs
    rw [mq]
    split
    · rename_i e
      rw [Bool.and_eq_true, decide_eq_true_eq] at e
      have hcl := (clb_iff (by omega)).mp e.2
      refine Nat.max_le.mpr ⟨ih (by omega), ?_⟩
      by_cases h0 : s = 0
      · rw [h0, pc_z]; exact Nat.zero_le _
      · obtain ⟨v, hv, sv⟩ := (set_ne0 (n := 10) (show s < 2 ^ 10 by omega)).mp h0
        rw [pc_less (by omega) hv sv]
        have h1 : wi (mi s (2 ^ v)) (n v) := fun i hi => by
          rw [mp_bit, Bool.and_eq_true] at hi
          have hi10 := bit_lt (n := 10) (show s < 2 ^ 10 by omega) hi.1
          have : v ≠ i := fun q => by rw [decide_eq_true q] at hi; cases hi.2
          exact hcl v i hv hi10 sv hi.1 this
        have := wi_pc h1
        have := mo9_ge (n := n) hv
        omega
    · exact ih (by omega)
theorem mq_up {th : Nat} : ∀ {s m : Nat}, s ≤ m → mq n th s ≤ mq n th m := by
  intro s m h
  induction m with
  | zero => rw [show s = 0 by omega]; exact Nat.le_refl _
  | succ m ih =>
    by_cases e : s = m + 1
    · rw [e]; exact Nat.le_refl _
    · refine Nat.le_trans (ih (by omega)) ?_
      rw [mq]
      split
      · exact Nat.le_max_left _ _
      · exact Nat.le_refl _
theorem clq_0 {th : Nat} (hth : th < 1024) : mq n th 1024 = 0 ↔ th = 0 := by
  refine ⟨fun q => ?_, fun q => ?_⟩
  · refine Classical.byContradiction fun h0 => ?_
    obtain ⟨v, hv, sv⟩ := (set_ne0 (n := 10) (show th < 2 ^ 10 by omega)).mp h0
    have h1 : mi (2 ^ v) th = 0 := (wi_mi (pow_lt10 hv)).mp (fun i hi => by
      rw [Nat.testBit_two_pow, decide_eq_true_eq] at hi
      rw [← hi]; exact sv)
    have h2 : clb n (2 ^ v) = true := (clb_iff (pow_lt10 hv)).mpr (fun i j _ _ a b hn => by
      rw [Nat.testBit_two_pow, decide_eq_true_eq] at a b
      exact absurd (a.symm.trans b) hn)
    have h3 : pc (2 ^ v) ≤ mq n th (2 ^ v + 1) := by
      rw [mq, h1, h2]
      exact Nat.le_max_right _ _
    have := mq_up (n := n) (th := th) (s := 2 ^ v + 1) (m := 1024) (by have := pow_lt10 hv; omega)
    have := pc_pow hv
    omega
  · subst q
    have key : ∀ s, s ≤ 1024 → mq n 0 s = 0 := by
      intro s
      induction s with
      | zero => intro _; rfl
      | succ s ih =>
        intro hs
        rw [mq]
        split
        · rename_i e
          rw [Bool.and_eq_true, decide_eq_true_eq] at e
          have hsub := (wi_mi (A := s) (S := 0) (by omega)).mpr e.1
          have : s = 0 := (set_zero (n := 10) (show s < 2 ^ 10 by omega)).mpr (fun k _ => bfalse (fun a => by
            have := hsub k a
            rw [Nat.zero_testBit] at this; cases this))
          rw [ih (by omega), this, pc_z]
          rfl
        · exact ih (by omega)
    exact key 1024 (Nat.le_refl _)
/-- as many tints as countries are enough, and as many as the most neighbours and one -/
theorem few_there (g : Gr n) {th : Nat} (hth : th < 1024) : rr n (pc th) th ≠ 0 := by
  refine (rr_col g (pc th) th hth).mpr ⟨fun j => ct th.testBit j + 1, fun i hi hs => ⟨Nat.succ_le_succ (Nat.zero_le _), ?_⟩, fun i j hi hj a b hn => ?_⟩
  · rw [pc_n (n := 10) hth (by decide)]
    have : ∀ m, i < m → ct th.testBit i + 1 ≤ ct th.testBit m := by
      intro m
      induction m with
      | zero => intro h; exact absurd h (Nat.not_lt_zero i)
      | succ m ih =>
        intro h
        rw [ct_s]
        by_cases e : i = m
        · subst e; rw [hs]; exact Nat.le_refl _
        · have := ih (by omega); omega
    exact this 10 hi
  · have mono : ∀ i j, th.testBit i = true → i < j → ct th.testBit i < ct th.testBit j := by
      intro i j a
      induction j with
      | zero => intro h; exact absurd h (Nat.not_lt_zero i)
      | succ m ih =>
        intro h
        rw [ct_s]
        by_cases e : i = m
        · subst e; rw [a]; exact Nat.lt_succ_self _
        · have := ih (by omega); omega
    have hij : i ≠ j := fun e => by
      subst e
      rw [g.2.2 i hi] at hn; cases hn
    rcases Nat.lt_or_gt_of_ne hij with h | h
    · have := mono i j a h
      exact fun e => by have e : ct th.testBit i + 1 = ct th.testBit j + 1 := e; omega
    · have := mono j i b h
      exact fun e => by have e : ct th.testBit i + 1 = ct th.testBit j + 1 := e; omega
theorem few_mo (g : Gr n) {th : Nat} (hth : th < 1024) : rr n (mo9 n 10 + 1) th ≠ 0 := by
  have key : ∀ k, k ≤ 10 → ∃ a, PC n (mo9 n 10 + 1) th k a := by
    intro k
    induction k with
    | zero => intro _; exact ⟨fun _ => 0, fun i h => absurd h (Nat.not_lt_zero i), fun i j h => absurd h (Nat.not_lt_zero i)⟩
    | succ k ih =>
      intro hk
      obtain ⟨a, ha⟩ := ih (by omega)
      have hk10 : k < 10 := by omega
      have hex : ∃ v, 1 ≤ v ∧ v ≤ mo9 n 10 + 1 ∧ ∀ i, i < k → th.testBit i = true → (n k).testBit i = true → a i ≠ v := by
        refine Classical.byContradiction fun hno => ?_
        have := pig (N := fun j => (n k).testBit j) (t := a) (mo9 n 10 + 1) (fun v v1 v2 => Classical.byContradiction fun q => hno ⟨v, v1, v2, fun i hi _ hn e => q ⟨i, by omega, hn, e⟩⟩)
        have h2 : ct (fun j => (n k).testBit j && decide (1 ≤ a j ∧ a j ≤ mo9 n 10 + 1)) 10 ≤ ct (n k).testBit 10 := ct_sub (fun j _ q => by
          rw [Bool.and_eq_true] at q
          exact q.1)
        have h3 := mo9_ge (n := n) hk10
        rw [pc_n (n := 10) (g.1 k hk10) (by decide)] at h3
        omega
      obtain ⟨v, v1, v2, hf⟩ := hex
      exact ⟨_, pc_step g hk10 ha v1 v2 hf⟩
  obtain ⟨a, h1, h2⟩ := key 10 (Nat.le_refl _)
  exact (rr_col g _ th hth).mpr ⟨a, h1, h2⟩
theorem few_min {f S k : Nat} (h0 : ∀ k, k < f → rr n k S = 0) (h : rr n k S ≠ 0) : f ≤ k := Nat.le_of_not_lt fun q => h (h0 k q)
end CNT
