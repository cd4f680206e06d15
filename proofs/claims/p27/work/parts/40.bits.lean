/-! the pure side: sets as numbers -/
theorem pI_and (a b : Nat) : nI a &&& nI b = nI (a &&& b) := by
  apply Int32.toBitVec_inj.1
  show BitVec.ofNat 32 a &&& BitVec.ofNat 32 b = BitVec.ofNat 32 (a &&& b)
  apply BitVec.eq_of_getLsbD_eq
  intro i hi
  simp [Nat.testBit_and, BitVec.getLsbD_ofNat, hi]
theorem pI_or (a b : Nat) : nI a ||| nI b = nI (a ||| b) := by
  apply Int32.toBitVec_inj.1
  show BitVec.ofNat 32 a ||| BitVec.ofNat 32 b = BitVec.ofNat 32 (a ||| b)
  apply BitVec.eq_of_getLsbD_eq
  intro i hi
  simp [Nat.testBit_or, BitVec.getLsbD_ofNat, hi]
theorem pI_not (a b : Nat) : nI a &&& (nI b ^^^ (-1 : Int32)) = nI (a ^^^ (a &&& b)) := by
  apply Int32.toBitVec_inj.1
  show BitVec.ofNat 32 a &&& (BitVec.ofNat 32 b ^^^ (-1 : Int32).toBitVec) = BitVec.ofNat 32 (a ^^^ (a &&& b))
  rw [show (-1 : Int32).toBitVec = BitVec.allOnes 32 from rfl]
  apply BitVec.eq_of_getLsbD_eq
  intro i hi
  simp only [BitVec.getLsbD_and, BitVec.getLsbD_xor, BitVec.getLsbD_ofNat, BitVec.getLsbD_allOnes, Nat.testBit_xor, Nat.testBit_and, hi, decide_true, Bool.true_and]
  cases a.testBit i <;> cases b.testBit i <;> rfl
theorem pL_and (a b : Nat) : lN a &&& lN b = lN (a &&& b) := by
  apply Int64.toBitVec_inj.1
  show BitVec.ofNat 64 a &&& BitVec.ofNat 64 b = BitVec.ofNat 64 (a &&& b)
  apply BitVec.eq_of_getLsbD_eq
  intro i hi
  simp [Nat.testBit_and, BitVec.getLsbD_ofNat, hi]
theorem pL_or (a b : Nat) : lN a ||| lN b = lN (a ||| b) := by
  apply Int64.toBitVec_inj.1
  show BitVec.ofNat 64 a ||| BitVec.ofNat 64 b = BitVec.ofNat 64 (a ||| b)
  apply BitVec.eq_of_getLsbD_eq
  intro i hi
  simp [Nat.testBit_or, BitVec.getLsbD_ofNat, hi]
theorem pL_not (a b : Nat) : lN a &&& (lN b ^^^ (-1 : Int64)) = lN (a ^^^ (a &&& b)) := by
  apply Int64.toBitVec_inj.1
  show BitVec.ofNat 64 a &&& (BitVec.ofNat 64 b ^^^ (-1 : Int64).toBitVec) = BitVec.ofNat 64 (a ^^^ (a &&& b))
  rw [show (-1 : Int64).toBitVec = BitVec.allOnes 64 from rfl]
  apply BitVec.eq_of_getLsbD_eq
  intro i hi
  simp only [BitVec.getLsbD_and, BitVec.getLsbD_xor, BitVec.getLsbD_ofNat, BitVec.getLsbD_allOnes, Nat.testBit_xor, Nat.testBit_and, hi, decide_true, Bool.true_and]
  cases a.testBit i <;> cases b.testBit i <;> rfl
theorem pI_bit {k : Nat} (h : k < 31) : (1 : Int32) <<< (nI k &&& 31) = nI (2 ^ k) := by
  have : ∀ k, k < 31 → (1 : Int32) <<< (nI k &&& 31) = nI (2 ^ k) := by decide +kernel
  exact this k h
theorem pL_bit {k : Nat} (h : k < 63) : xlshl (1 : Int64) (nI k) = lN (2 ^ k) := by
  have : ∀ k, k < 63 → xlshl (1 : Int64) (nI k) = lN (2 ^ k) := by decide +kernel
  exact this k h
theorem pL_inj {a b : Nat} (ha : a < 2 ^ 64) (hb : b < 2 ^ 64) : lN a = lN b ↔ a = b := by
  constructor
  · intro h
    have h1 := congrArg (fun x : Int64 => x.toBitVec.toNat) h
    have e : ∀ n, n < 2 ^ 64 → (lN n).toBitVec.toNat = n := fun n hn => Nat.mod_eq_of_lt hn
    simp only [e a ha, e b hb] at h1
    exact h1
  · rintro rfl; rfl
theorem pI_inj {a b : Nat} (ha : a < 2 ^ 32) (hb : b < 2 ^ 32) : nI a = nI b ↔ a = b := by
  constructor
  · intro h
    have h1 := congrArg (fun x : Int32 => x.toBitVec.toNat) h
    have e : ∀ n, n < 2 ^ 32 → (nI n).toBitVec.toNat = n := fun n hn => Nat.mod_eq_of_lt hn
    simp only [e a ha, e b hb] at h1
    exact h1
  · rintro rfl; rfl
theorem pI_0 : nI 0 = 0 := rfl
theorem pL_0 : lN 0 = 0 := rfl
theorem pI_eq0 {a : Nat} (ha : a < 2 ^ 32) : nI a = 0 ↔ a = 0 := pI_inj ha (by decide)
theorem pL_eq0 {a : Nat} (ha : a < 2 ^ 64) : lN a = 0 ↔ a = 0 := pL_inj ha (by decide)
theorem pcmp {x y : Int64} : lg_cmp x y = 0 ↔ x = y := by
  unfold lg_cmp
  by_cases h1 : x > y
  · rw [if_pos h1]
    constructor
    · intro h; exact absurd h (by decide)
    · rintro rfl; exact absurd h1 (by rw [gt_iff_lt, Int64.lt_iff_toInt_lt]; omega)
  · rw [if_neg h1]
    by_cases h2 : x = y
    · rw [if_pos h2]; exact ⟨fun _ => h2, fun _ => rfl⟩
    · rw [if_neg h2]; exact ⟨fun h => absurd h (by decide), fun h => absurd h h2⟩
theorem pL_shl {a : Nat} (s : Int32) (k : Nat) (hs : (s.toInt64 &&& 63).toBitVec.smod 64 = BitVec.ofNat 64 k) (hk : k < 64) (ha : a < 2 ^ 64) : xlshl (lN a) s = lN (a * 2 ^ k) := by
  unfold xlshl
  apply Int64.toBitVec_inj.mp
  rw [Int64.toBitVec_shiftLeft, hs]
  apply BitVec.eq_of_toNat_eq
  have hb : (lN a).toBitVec.toNat = a := Nat.mod_eq_of_lt ha
  have hk' : (BitVec.ofNat 64 k).toNat = k := Nat.mod_eq_of_lt (by omega)
  have h : ((lN a).toBitVec <<< BitVec.ofNat 64 k).toNat = (a * 2 ^ k) % 2 ^ 64 := by simp only [BitVec.shiftLeft_eq', BitVec.toNat_shiftLeft, hb, hk', Nat.shiftLeft_eq]
  exact h
theorem pL_toInt {a : Nat} (h : a < 2 ^ 63) : (lN a).toInt = (a : Int) := by
  have e : (lN a).toBitVec.toNat = a := Nat.mod_eq_of_lt (by omega)
  show (lN a).toBitVec.toInt = _
  rw [BitVec.toInt_eq_toNat_cond, e, if_pos (by omega)]
theorem pL_shr {a : Nat} (s : Int32) (k : Nat) (hs : ((s.toInt64 &&& 63).toBitVec.smod 64).toNat = k) (ha : a < 2 ^ 62) : xlshr (lN a) s = lN (a / 2 ^ k) := by
  unfold xlshr
  have hd : a / 2 ^ k ≤ a := Nat.div_le_self _ _
  apply Int64.toInt_inj.mp
  have e : (lN a >>> (s.toInt64 &&& 63)).toInt = (lN a).toInt >>> k := by
    rw [← hs]
    exact BitVec.toInt_sshiftRight ..
  rw [e, Int.shiftRight_eq_div_pow, pL_toInt (by omega), pL_toInt (by omega)]
  rfl
theorem pL_ushr {a : Nat} (s : Int32) (k : Nat) (hs : s.toInt64.toUInt64 &&& Int64.toUInt64 63 = UInt64.ofNat k) (hk : k < 64) (ha : a < 2 ^ 64) : xlushr (lN a) s = lN (a / 2 ^ k) := by
  unfold xlushr
  rw [hs]
  have u : ∀ n, n < 2 ^ 64 → (UInt64.ofNat n).toNat = n := fun n hn => Nat.mod_eq_of_lt hn
  have h : UInt64.ofNat a >>> UInt64.ofNat k = UInt64.ofNat (a / 2 ^ k) := UInt64.toNat_inj.mp (by rw [UInt64.toNat_shiftRight, u a ha, u k (by omega), u _ (Nat.lt_of_le_of_lt (Nat.div_le_self _ _) ha), Nat.mod_eq_of_lt hk, Nat.shiftRight_eq_div_pow])
  exact congrArg UInt64.toInt64 h
theorem pL_shr' {a k : Nat} (hk : k < 63) (ha : a < 2 ^ 62) : xlshr (lN a) (nI k) = lN (a / 2 ^ k) := by
  have h : ∀ k, k < 63 → (((nI k).toInt64 &&& 63).toBitVec.smod 64).toNat = k := by decide +kernel
  exact pL_shr (nI k) k (h k hk) ha
theorem pL_ushr' {a k : Nat} (hk : k < 63) (ha : a < 2 ^ 64) : xlushr (lN a) (nI k) = lN (a / 2 ^ k) := by
  have h : ∀ k, k < 63 → (nI k).toInt64.toUInt64 &&& Int64.toUInt64 63 = UInt64.ofNat k := by decide +kernel
  exact pL_ushr (nI k) k (h k hk) (by omega) ha
theorem pL_shl' {a k : Nat} (hk : k < 63) (ha : a < 2 ^ 64) : xlshl (lN a) (nI k) = lN (a * 2 ^ k) := by
  have h : ∀ k, k < 63 → ((nI k).toInt64 &&& 63).toBitVec.smod 64 = BitVec.ofNat 64 k := by decide +kernel
  exact pL_shl (nI k) k (h k hk) (by omega) ha
/-- the set of all k below n with p k, as a number -/
def so (p : Nat → Bool) : Nat → Nat
  | 0 => 0
  | n + 1 => so p n ||| (if p n then 2 ^ n else 0)
theorem so_bit (p : Nat → Bool) : ∀ (n k : Nat), (so p n).testBit k = (decide (k < n) && p k)
  | 0, k => by simp [so]
  | n + 1, k => by
    rw [so, Nat.testBit_or, so_bit p n k]
    by_cases h : p n = true
    · rw [if_pos h, Nat.testBit_two_pow]
      by_cases e : k = n
      · subst e; simp [h]
      · rw [show decide (n = k) = false from decide_eq_false (fun q => e q.symm), Bool.or_false]
        by_cases hk : k < n
        · simp [hk, Nat.lt_succ_of_lt hk]
        · simp [hk, show ¬ k < n + 1 by omega]
    · rw [if_neg h]
      simp only [Nat.zero_testBit, Bool.or_false]
      by_cases e : k = n
      · subst e; simp [h]
      · by_cases hk : k < n
        · simp [hk, Nat.lt_succ_of_lt hk]
        · simp [hk, show ¬ k < n + 1 by omega]
theorem so_lt (p : Nat → Bool) (n : Nat) : so p n < 2 ^ n := by
  apply Nat.lt_pow_two_of_testBit
  intro i hi
  rw [so_bit]
  simp [Nat.not_lt.mpr hi]
theorem so_of {a n : Nat} (h : a < 2 ^ n) : so a.testBit n = a := by
  apply Nat.eq_of_testBit_eq
  intro i
  rw [so_bit]
  by_cases hi : i < n
  · simp [hi]
  · rw [Nat.testBit_lt_two_pow (Nat.lt_of_lt_of_le h (Nat.pow_le_pow_right (by decide) (Nat.not_lt.mp hi)))]
    simp
theorem so_eq {p : Nat → Bool} {a n : Nat} (ha : a < 2 ^ n) (h : ∀ k, k < n → a.testBit k = p k) : a = so p n := by
  apply Nat.eq_of_testBit_eq
  intro i
  rw [so_bit]
  by_cases hi : i < n
  · simp [hi, h i hi]
  · rw [Nat.testBit_lt_two_pow (Nat.lt_of_lt_of_le ha (Nat.pow_le_pow_right (by decide) (Nat.not_lt.mp hi)))]
    simp [hi]
theorem so_cong {p q : Nat → Bool} : ∀ {n : Nat}, (∀ k, k < n → p k = q k) → so p n = so q n
  | 0, _ => rfl
  | n + 1, h => by rw [so, so, so_cong (fun k hk => h k (Nat.lt_succ_of_lt hk)), h n (Nat.lt_succ_self n)]
theorem set_eq {a b n : Nat} (ha : a < 2 ^ n) (hb : b < 2 ^ n) (h : ∀ k, k < n → a.testBit k = b.testBit k) : a = b := by
  rw [so_eq ha h, so_of hb]
theorem bit_lt {a n k : Nat} (ha : a < 2 ^ n) (h : a.testBit k = true) : k < n := by
  refine Nat.not_le.mp fun hk => ?_
  rw [Nat.testBit_lt_two_pow (Nat.lt_of_lt_of_le ha (Nat.pow_le_pow_right (by decide) hk))] at h
  cases h
theorem set_zero {a n : Nat} (ha : a < 2 ^ n) : a = 0 ↔ ∀ k, k < n → a.testBit k = false := by
  constructor
  · rintro rfl k _; exact Nat.zero_testBit k
  · intro h; exact set_eq ha (Nat.two_pow_pos n) (fun k hk => by rw [h k hk, Nat.zero_testBit])
theorem and_lt {a b n : Nat} (ha : a < 2 ^ n) : a &&& b < 2 ^ n := Nat.lt_of_le_of_lt Nat.and_le_left ha
theorem or_lt {a b n : Nat} (ha : a < 2 ^ n) (hb : b < 2 ^ n) : a ||| b < 2 ^ n := Nat.or_lt_two_pow ha hb
/-- a without b -/
def mi (a b : Nat) : Nat := a ^^^ (a &&& b)
theorem mi_bit (a b k : Nat) : (mi a b).testBit k = (a.testBit k && !b.testBit k) := by
  unfold mi
  rw [Nat.testBit_xor, Nat.testBit_and]
  cases a.testBit k <;> cases b.testBit k <;> rfl
theorem mi_lt {a b n : Nat} (ha : a < 2 ^ n) : mi a b < 2 ^ n := by
  apply Nat.lt_pow_two_of_testBit
  intro i hi
  rw [mi_bit, Nat.testBit_lt_two_pow (Nat.lt_of_lt_of_le ha (Nat.pow_le_pow_right (by decide) hi))]
  rfl
theorem mi_le (a b : Nat) : mi a b ≤ a := by
  have h : mi a b = a &&& mi a b := by
    apply Nat.eq_of_testBit_eq
    intro i
    rw [Nat.testBit_and, mi_bit]
    cases a.testBit i <;> rfl
  rw [h]
  exact Nat.and_le_left
theorem pI_mi (a b : Nat) : nI a &&& (nI b ^^^ (-1 : Int32)) = nI (mi a b) := pI_not a b
theorem pL_mi (a b : Nat) : lN a &&& (lN b ^^^ (-1 : Int64)) = lN (mi a b) := pL_not a b
/-- how many k below n have p -/
def ct (p : Nat → Bool) : Nat → Nat
  | 0 => 0
  | n + 1 => ct p n + (if p n then 1 else 0)
theorem ct_le (p : Nat → Bool) : ∀ n, ct p n ≤ n
  | 0 => Nat.le_refl _
  | n + 1 => by
    have h := ct_le p n
    rw [ct]
    split <;> omega
theorem ct_cong {p q : Nat → Bool} : ∀ {n : Nat}, (∀ k, k < n → p k = q k) → ct p n = ct q n
  | 0, _ => rfl
  | n + 1, h => by rw [ct, ct, ct_cong (fun k hk => h k (Nat.lt_succ_of_lt hk)), h n (Nat.lt_succ_self n)]
theorem ct_sub {p q : Nat → Bool} : ∀ {n : Nat}, (∀ k, k < n → p k = true → q k = true) → ct p n ≤ ct q n
  | 0, _ => Nat.le_refl _
  | n + 1, h => by
    have h1 := ct_sub (fun k hk => h k (Nat.lt_succ_of_lt hk))
    have h2 := h n (Nat.lt_succ_self n)
    rw [ct, ct]
    cases hp : p n with
    | false => simp only [Bool.false_eq_true, if_false]; omega
    | true => simp only [h2 hp, if_true]; omega
theorem ct_lt {p q : Nat → Bool} {i : Nat} : ∀ {n : Nat}, i < n → (∀ k, k < n → p k = true → q k = true) → p i = false → q i = true → ct p n < ct q n
  | 0, h, _, _, _ => absurd h (Nat.not_lt_zero i)
  | n + 1, hi, h, h1, h2 => by
    rw [ct, ct]
    have hle := h n (Nat.lt_succ_self n)
    by_cases e : i = n
    · subst e
      have := ct_sub (n := i) (fun k hk => h k (Nat.lt_succ_of_lt hk))
      simp only [h1, h2, Bool.false_eq_true, if_false, if_true]
      omega
    · have := ct_lt (n := n) (by omega) (fun k hk => h k (Nat.lt_succ_of_lt hk)) h1 h2
      cases hp : p n with
      | false => simp only [Bool.false_eq_true, if_false]; omega
      | true => simp only [hle hp, if_true]; omega
theorem ct_zero {p : Nat → Bool} : ∀ {n : Nat}, ct p n = 0 ↔ ∀ k, k < n → p k = false
  | 0 => ⟨fun _ k hk => absurd hk (Nat.not_lt_zero k), fun _ => rfl⟩
  | n + 1 => by
    rw [ct]
    constructor
    · intro h k hk
      have h1 : ct p n = 0 := by omega
      rcases Nat.lt_succ_iff_lt_or_eq.mp hk with h2 | rfl
      · exact ct_zero.mp h1 k h2
      · cases hp : p k with
        | false => rfl
        | true => rw [hp, if_pos rfl] at h; omega
    · intro h
      rw [ct_zero.mpr (fun k hk => h k (Nat.lt_succ_of_lt hk)), h n (Nat.lt_succ_self n)]
      rfl
theorem ct_more {p : Nat → Bool} {m : Nat} : ∀ {n : Nat}, m ≤ n → (∀ k, m ≤ k → k < n → p k = false) → ct p n = ct p m
  | 0, h, _ => by rw [show m = 0 by omega]
  | n + 1, h, hz => by
    rcases Nat.lt_or_ge m (n + 1) with h1 | h1
    · rw [ct, hz n (by omega) (by omega), ct_more (n := n) (by omega) (fun k a b => hz k a (by omega))]
      rfl
    · rw [show m = n + 1 by omega]
/-- how many bits a number below 2^64 has -/
def pc (a : Nat) : Nat := ct a.testBit 64
theorem pc_n {a n : Nat} (ha : a < 2 ^ n) (hn : n ≤ 64) : pc a = ct a.testBit n := by
  unfold pc
  exact ct_more hn (fun k h1 h2 => Nat.testBit_lt_two_pow (Nat.lt_of_lt_of_le ha (Nat.pow_le_pow_right (by decide) h1)))
