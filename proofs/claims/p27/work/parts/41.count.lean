/-! the pure side: counting bits -/
theorem byte_bit {a b j : Nat} (hb : b < 256) : (256 * a + b).testBit j = if j < 8 then b.testBit j else a.testBit (j - 8) := Nat.testBit_two_pow_mul_add a (i := 8) hb j
theorem byte_and {a b c d : Nat} (hb : b < 256) (hd : d < 256) : (256 * a + b) &&& (256 * c + d) = 256 * (a &&& c) + (b &&& d) := by
  apply Nat.eq_of_testBit_eq
  intro i
  rw [Nat.testBit_and, byte_bit hb, byte_bit hd, byte_bit (Nat.lt_of_le_of_lt Nat.and_le_left hb)]
  by_cases h : i < 8
  · rw [if_pos h, if_pos h, if_pos h, Nat.testBit_and]
  · rw [if_neg h, if_neg h, if_neg h, Nat.testBit_and]
def mk (d : Nat) : Nat → Nat
  | 0 => 0
  | n + 1 => 256 * mk d n + d
def hh1 (c : Nat) : Nat := c - (c / 2 &&& 85)
def hh2 (c : Nat) : Nat := (c &&& 51) + (c / 4 &&& 51)
def hh3 (c : Nat) : Nat := (c + c / 16) &&& 15
def ff1 (n x : Nat) : Nat := x - (x / 2 &&& mk 85 n)
def ff2 (n x : Nat) : Nat := (x &&& mk 51 n) + (x / 4 &&& mk 51 n)
def ff3 (n x : Nat) : Nat := (x + x / 16) &&& mk 15 n
theorem ff1_s (n y c : Nat) (hc : c < 256) : ff1 (n + 1) (256 * y + c) = 256 * ff1 n y + hh1 c := by
  unfold ff1 hh1
  have e : (256 * y + c) / 2 = 256 * (y / 2) + (128 * (y % 2) + c / 2) := by omega
  have d : ∀ e, e < 2 → ∀ c, c < 256 → (128 * e + c / 2) &&& 85 = c / 2 &&& 85 := by decide +kernel
  rw [e, mk, byte_and (by omega) (by decide), d _ (Nat.mod_lt _ (by decide)) _ hc]
  have h1 : y / 2 &&& mk 85 n ≤ y := Nat.le_trans Nat.and_le_left (Nat.div_le_self _ _)
  have h2 : c / 2 &&& 85 ≤ c := Nat.le_trans Nat.and_le_left (Nat.div_le_self _ _)
  omega
theorem ff2_s (n y c : Nat) (hc : c < 256) : ff2 (n + 1) (256 * y + c) = 256 * ff2 n y + hh2 c := by
  unfold ff2 hh2
  have e : (256 * y + c) / 4 = 256 * (y / 4) + (64 * (y % 4) + c / 4) := by omega
  have d : ∀ e, e < 4 → ∀ c, c < 256 → (64 * e + c / 4) &&& 51 = c / 4 &&& 51 := by decide +kernel
  rw [e, mk, byte_and (by omega) (by decide), byte_and (by omega) (by decide), d _ (Nat.mod_lt _ (by decide)) _ hc]
  omega
theorem hh_facts : ∀ c, c < 256 → hh1 c < 256 ∧ hh2 (hh1 c) < 256 ∧ hh2 (hh1 c) % 16 ≤ 4 ∧ hh2 (hh1 c) / 16 ≤ 4 ∧ hh3 (hh2 (hh1 c)) = ct c.testBit 8 ∧ ∀ e, e < 5 → (hh2 (hh1 c) + (16 * e + hh2 (hh1 c) / 16)) < 256 ∧ (hh2 (hh1 c) + (16 * e + hh2 (hh1 c) / 16)) &&& 15 = hh3 (hh2 (hh1 c)) := by decide +kernel
def ss : Nat → Nat → Nat
  | 0, _ => 0
  | n + 1, a => 256 * ss n (a / 256) + ct (a % 256).testBit 8
theorem ff_all : ∀ (n a : Nat), ff2 n (ff1 n a) % 16 ≤ 4 ∧ (a < 256 ^ n → ff3 n (ff2 n (ff1 n a)) = ss n a)
  | 0, a => by
    constructor
    · simp [ff2, mk]
    · intro _; simp [ff3, ss, mk]
  | n + 1, a => by
    have ha : a = 256 * (a / 256) + a % 256 := by omega
    have hc : a % 256 < 256 := Nat.mod_lt _ (by decide)
    generalize hy : a / 256 = y at ha
    generalize hcc : a % 256 = c at ha hc
    obtain ⟨f1, f2, f3, f4, f5, f6⟩ := hh_facts c hc
    obtain ⟨g1, g2⟩ := ff_all n y
    have e1 : ff2 (n + 1) (ff1 (n + 1) a) = 256 * ff2 n (ff1 n y) + hh2 (hh1 c) := by rw [ha, ff1_s n y c hc, ff2_s _ _ _ f1]
    refine ⟨by rw [e1]; omega, fun hl => ?_⟩
    have hl2 : y < 256 ^ n := by
      rw [Nat.pow_succ] at hl
      omega
    rw [e1, ss, hy, hcc]
    unfold ff3
    have e : 256 * ff2 n (ff1 n y) + hh2 (hh1 c) + (256 * ff2 n (ff1 n y) + hh2 (hh1 c)) / 16 = 256 * (ff2 n (ff1 n y) + ff2 n (ff1 n y) / 16) + (hh2 (hh1 c) + (16 * (ff2 n (ff1 n y) % 16) + hh2 (hh1 c) / 16)) := by omega
    obtain ⟨k1, k2⟩ := f6 (ff2 n (ff1 n y) % 16) (by omega)
    rw [e, mk, byte_and k1 (by decide), k2, f5]
    have := g2 hl2
    unfold ff3 at this
    rw [this]
theorem ct_byte (a m : Nat) : ct a.testBit (8 + m) = ct (a % 256).testBit 8 + ct (a / 256).testBit m := by
  induction m with
  | zero =>
    show ct a.testBit 8 = _ + 0
    refine ct_cong (fun k hk => ?_)
    rw [show (256 : Nat) = 2 ^ 8 from rfl, Nat.testBit_mod_two_pow]
    simp [hk]
  | succ m ih =>
    have e : (a / 256).testBit m = a.testBit (8 + m) := by rw [show (256 : Nat) = 2 ^ 8 from rfl, Nat.testBit_div_two_pow, Nat.add_comm]
    show ct a.testBit (8 + m) + (if a.testBit (8 + m) = true then 1 else 0) = ct (a % 256).testBit 8 + (ct (a / 256).testBit m + (if (a / 256).testBit m = true then 1 else 0))
    rw [ih, e]
    omega
theorem ss_sum {a : Nat} (ha : a < 2 ^ 36) : ∃ p0 p1 p2 p3 p4 : Nat, p0 ≤ 8 ∧ p1 ≤ 8 ∧ p2 ≤ 8 ∧ p3 ≤ 8 ∧ p4 ≤ 8 ∧ ss 8 a = p0 + 256 * p1 + 65536 * p2 + 16777216 * p3 + 4294967296 * p4 ∧ pc a = p0 + p1 + p2 + p3 + p4 := by
  have z : ct (0 % 256).testBit 8 = 0 := by decide
  have z5 : a / 256 / 256 / 256 / 256 / 256 = 0 := by omega
  refine ⟨ct (a % 256).testBit 8, ct (a / 256 % 256).testBit 8, ct (a / 256 / 256 % 256).testBit 8, ct (a / 256 / 256 / 256 % 256).testBit 8, ct (a / 256 / 256 / 256 / 256 % 256).testBit 8, ct_le _ _, ct_le _ _, ct_le _ _, ct_le _ _, ct_le _ _, ?_, ?_⟩
  · simp only [ss, z5, Nat.zero_div, z]
    omega
  · rw [pc_n (n := 40) (Nat.lt_of_lt_of_le ha (by decide)) (by decide), show (40 : Nat) = 8 + 32 from rfl, ct_byte, show (32 : Nat) = 8 + 24 from rfl, ct_byte, show (24 : Nat) = 8 + 16 from rfl, ct_byte, show (16 : Nat) = 8 + 8 from rfl, ct_byte, show a / 256 / 256 / 256 / 256 % 256 = a / 256 / 256 / 256 / 256 by omega]
    omega
theorem sum_1 (p0 p1 p2 p3 p4 : Nat) (h0 : p0 ≤ 8) (h1 : p1 ≤ 8) (h2 : p2 ≤ 8) (h3 : p3 ≤ 8) (h4 : p4 ≤ 8) : (p0 + 256 * p1 + 65536 * p2 + 16777216 * p3 + 4294967296 * p4) + (p0 + 256 * p1 + 65536 * p2 + 16777216 * p3 + 4294967296 * p4) / 256 = (p0 + p1) + 256 * (p1 + p2) + 65536 * (p2 + p3) + 16777216 * (p3 + p4) + 4294967296 * p4 := by omega
theorem sum_2 (p0 p1 p2 p3 p4 : Nat) (h0 : p0 ≤ 16) (h1 : p1 ≤ 16) (h2 : p2 ≤ 16) (h3 : p3 ≤ 16) (h4 : p4 ≤ 16) : (p0 + 256 * p1 + 65536 * p2 + 16777216 * p3 + 4294967296 * p4) + (p0 + 256 * p1 + 65536 * p2 + 16777216 * p3 + 4294967296 * p4) / 65536 = (p0 + p2) + 256 * (p1 + p3) + 65536 * (p2 + p4) + 16777216 * p3 + 4294967296 * p4 := by omega
theorem sum_3 (p0 p1 p2 p3 p4 : Nat) (h0 : p0 ≤ 32) (h1 : p1 ≤ 32) (h2 : p2 ≤ 32) (h3 : p3 ≤ 32) (h4 : p4 ≤ 32) : ((p0 + 256 * p1 + 65536 * p2 + 16777216 * p3 + 4294967296 * p4) + (p0 + 256 * p1 + 65536 * p2 + 16777216 * p3 + 4294967296 * p4) / 4294967296) % 128 = p0 + p4 := by
  have e : (p0 + 256 * p1 + 65536 * p2 + 16777216 * p3 + 4294967296 * p4) / 4294967296 = p4 := by omega
  rw [e, show p0 + 256 * p1 + 65536 * p2 + 16777216 * p3 + 4294967296 * p4 + p4 = (p0 + p4) + 128 * (2 * p1 + 512 * p2 + 131072 * p3 + 33554432 * p4) by omega, Nat.add_mul_mod_self_left, Nat.mod_eq_of_lt (by omega)]
theorem pL_sub {a b : Nat} (h : b ≤ a) : lN a - lN b = lN (a - b) := lN_sub h
theorem pL_i32 (n : Nat) : (lN n).toInt32 = nI n := lN_i n
theorem J13_spec {a : Nat} (ha : a < 2 ^ 36) {P : Int32 → Prop} (h : P (nI (pc a))) : q_J13_bitCount_95d88 (lN a) P := by
  unfold q_J13_bitCount_95d88
  simp only [xl]
  have m5 : (6148914691236517205 : Int64) = lN (mk 85 8) := by decide +kernel
  have m3 : (3689348814741910323 : Int64) = lN (mk 51 8) := by decide +kernel
  have mf : (1085102592571150095 : Int64) = lN (mk 15 8) := by decide +kernel
  have q1 : (1 : Int32) = nI 1 := rfl
  have q2 : (2 : Int32) = nI 2 := rfl
  have q4 : (4 : Int32) = nI 4 := rfl
  have q8 : (8 : Int32) = nI 8 := rfl
  have q16 : (16 : Int32) = nI 16 := rfl
  have q32 : (32 : Int32) = nI 32 := rfl
  have b1 : a / 2 &&& mk 85 8 ≤ a := Nat.le_trans Nat.and_le_left (Nat.div_le_self _ _)
  have c1 : ff1 8 a < 2 ^ 36 := Nat.lt_of_le_of_lt (Nat.sub_le _ _) ha
  have e1 : lN a - (xlushr (lN a) (1 : Int32) &&& (6148914691236517205 : Int64)) = lN (ff1 8 a) := by
    rw [q1, pL_ushr' (by decide) (by omega), m5, pL_and, pL_sub (by simpa using b1)]
    rfl
  rw [e1]
  have b2 : ff2 8 (ff1 8 a) < 2 ^ 37 := by
    unfold ff2
    have h1 : ff1 8 a &&& mk 51 8 ≤ ff1 8 a := Nat.and_le_left
    have h2 : ff1 8 a / 4 &&& mk 51 8 ≤ ff1 8 a / 4 := Nat.and_le_left
    omega
  have e2 : (lN (ff1 8 a) &&& (3689348814741910323 : Int64)) + (xlushr (lN (ff1 8 a)) (2 : Int32) &&& (3689348814741910323 : Int64)) = lN (ff2 8 (ff1 8 a)) := by
    rw [q2, pL_ushr' (by decide) (by omega), m3, pL_and, pL_and, lN_add]
    rfl
  rw [e2]
  have e3 : (lN (ff2 8 (ff1 8 a)) + xlushr (lN (ff2 8 (ff1 8 a))) (4 : Int32)) &&& (1085102592571150095 : Int64) = lN (ss 8 a) := by
    rw [q4, pL_ushr' (by decide) (by omega), mf, lN_add, pL_and, ← (ff_all 8 a).2 (Nat.lt_of_lt_of_le ha (by decide))]
    rfl
  rw [e3]
  obtain ⟨p0, p1, p2, p3, p4, h0, h1, h2, h3, h4, es, ep⟩ := ss_sum ha
  rw [ep] at h
  rw [es]
  rw [q8, pL_ushr' (by decide) (by omega), lN_add, show (2 : Nat) ^ 8 = 256 from rfl, sum_1 p0 p1 p2 p3 p4 h0 h1 h2 h3 h4]
  rw [q16, pL_ushr' (by decide) (by omega), lN_add, show (2 : Nat) ^ 16 = 65536 from rfl, sum_2 _ _ _ _ _ (by omega) (by omega) (by omega) (by omega) (by omega)]
  rw [q32, pL_ushr' (by decide) (by omega), lN_add, pL_i32]
  rw [show (127 : Int32) = nI 127 from rfl, pI_and, show (127 : Nat) = 2 ^ 7 - 1 from rfl, Nat.and_two_pow_sub_one_eq_mod, show (2 : Nat) ^ 32 = 4294967296 from rfl, show (2 : Nat) ^ 7 = 128 from rfl, sum_3 _ _ _ _ _ (by omega) (by omega) (by omega) (by omega) (by omega)]
  refine cast (congrArg (fun n => P (nI n)) ?_) h
  omega
theorem J6_all : ∀ n, n < 1024 → (let p0 := nI n; let y1 := p0 - ((xushr p0 (1 : Int32)) &&& (1431655765 : Int32)); let y2 := (y1 &&& (858993459 : Int32)) + ((xushr y1 (2 : Int32)) &&& (858993459 : Int32)); let y3 := (y2 + (xushr y2 (4 : Int32))) &&& (252645135 : Int32); let y4 := y3 + (xushr y3 (8 : Int32)); let y5 := y4 + (xushr y4 (16 : Int32)); y5 &&& (63 : Int32)) = nI (ct n.testBit 10) := by decide +kernel
theorem J6_spec {n : Nat} (hn : n < 1024) {P : Int32 → Prop} (h : P (nI (pc n))) : q_J6_bitCount_0f7a4 (nI n) P := by
  unfold q_J6_bitCount_0f7a4
  simp only [xl]
  rw [pc_n (n := 10) hn (by decide)] at h
  exact (J6_all n hn) ▸ h
