/-! the pure side: cells that touch, and pieces -/
def cF : Nat := 18446744072618766270
def cL : Nat := 18446744038804420575
def cM : Nat := 68719476735
def spr (a : Nat) : Nat := (((a ||| a / 2 ^ 6) ||| (a * 2 ^ 6 &&& cM)) ||| (a &&& cF) / 2 ^ 1) ||| ((a &&& cL) * 2 ^ 1)
theorem cF_eq : (-1090785346 : Int64) = lN cF := by decide +kernel
theorem cL_eq : (-34905131041 : Int64) = lN cL := by decide +kernel
theorem cM_eq : (68719476735 : Int64) = lN cM := by decide +kernel
theorem cF_bit : ∀ j, j < 36 → cF.testBit j = decide (j % 6 ≠ 0) := by decide +kernel
theorem cL_bit : ∀ j, j < 36 → cL.testBit j = decide (j % 6 ≠ 5) := by decide +kernel
theorem cM_bit (j : Nat) : cM.testBit j = decide (j < 36) := by
  unfold cM
  rw [show (68719476735 : Nat) = 2 ^ 36 - 1 from rfl, Nat.testBit_two_pow_sub_one]
theorem big_bit {a i : Nat} (ha : a < 2 ^ 36) (hi : 36 ≤ i) : a.testBit i = false := Nat.testBit_lt_two_pow (Nat.lt_of_lt_of_le ha (Nat.pow_le_pow_right (by decide) hi))
theorem bd_shl {a k i : Nat} : (a * 2 ^ k).testBit i = (decide (k ≤ i) && a.testBit (i - k)) := by
  rw [← Nat.shiftLeft_eq, Nat.testBit_shiftLeft]
theorem spr_bit {a i : Nat} (ha : a < 2 ^ 36) (hi : i < 36) : (spr a).testBit i = (((((a.testBit i || a.testBit (i + 6)) || (decide (6 ≤ i) && a.testBit (i - 6))) || (a.testBit (i + 1) && decide (i % 6 ≠ 5)))) || (decide (1 ≤ i) && (a.testBit (i - 1) && decide (i % 6 ≠ 0)))) := by
  unfold spr
  simp only [Nat.testBit_or, Nat.testBit_and, Nat.testBit_div_two_pow, bd_shl, cM_bit, hi, decide_true, Bool.and_true]
  have e1 : (a.testBit (i + 1) && cF.testBit (i + 1)) = (a.testBit (i + 1) && decide (i % 6 ≠ 5)) := by
    by_cases h : i + 1 < 36
    · rw [cF_bit _ h, show decide ((i + 1) % 6 ≠ 0) = decide (i % 6 ≠ 5) from decide_eq_decide.mpr (by omega)]
    · rw [big_bit ha (by omega)]; rfl
  have e2 : (decide (1 ≤ i) && (a.testBit (i - 1) && cL.testBit (i - 1))) = (decide (1 ≤ i) && (a.testBit (i - 1) && decide (i % 6 ≠ 0))) := by
    by_cases h : 1 ≤ i
    · rw [cL_bit _ (by omega), show decide ((i - 1) % 6 ≠ 5) = decide (i % 6 ≠ 0) from decide_eq_decide.mpr (by omega)]
    · simp [h]
  rw [e1, e2]
theorem spr_lt {a : Nat} (ha : a < 2 ^ 36) : spr a < 2 ^ 36 := by
  apply Nat.lt_pow_two_of_testBit
  intro i hi
  unfold spr
  simp only [Nat.testBit_or, Nat.testBit_and, Nat.testBit_div_two_pow, bd_shl, cM_bit, show ¬ i < 36 by omega, decide_false, Bool.and_false, Bool.or_false]
  rw [big_bit ha hi, big_bit ha (by omega), big_bit ha (show 36 ≤ i + 1 by omega)]
  by_cases h : i = 36
  · subst h
    have : cL.testBit (36 - 1) = false := by decide +kernel
    rw [this]; simp
  · rw [big_bit ha (show 36 ≤ i - 1 by omega)]; simp
theorem shr_lt {a k : Nat} (ha : a < 2 ^ 36) : a / 2 ^ k < 2 ^ 36 := Nat.lt_of_le_of_lt (Nat.div_le_self _ _) ha
theorem X0_spread_spec {a : Nat} (ha : a < 2 ^ 36) {P : Int64 → Prop} (h : P (lN (spr a))) : q_X0_spread (lN a) P := by
  unfold q_X0_spread q_X0_above q_X0_below q_X0_leftOf q_X0_rightOf
  dsimp only
  have h1 : a &&& cF < 2 ^ 36 := and_lt ha
  have h2 : a &&& cL < 2 ^ 36 := and_lt ha
  rw [show (6 : Int32) = nI 6 from rfl, show (1 : Int32) = nI 1 from rfl, pL_ushr' (by decide) (by omega), pL_shl' (by decide) (by omega), cF_eq, cL_eq, cM_eq, pL_and, pL_and, pL_and, pL_ushr' (by decide) (by omega), pL_shl' (by decide) (by omega), pL_or, pL_or, pL_or, pL_or]
  exact h
/-- x within y, bit by bit -/
def wi (x y : Nat) : Prop := ∀ i, x.testBit i = true → y.testBit i = true
theorem wi_rf (x : Nat) : wi x x := fun _ h => h
theorem wi_tr {x y z : Nat} (h : wi x y) (h2 : wi y z) : wi x z := fun i q => h2 i (h i q)
theorem wi_and_l (x y : Nat) : wi (x &&& y) x := fun i h => by rw [Nat.testBit_and, Bool.and_eq_true] at h; exact h.1
theorem wi_and_r (x y : Nat) : wi (x &&& y) y := fun i h => by rw [Nat.testBit_and, Bool.and_eq_true] at h; exact h.2
theorem wi_lt {x y n : Nat} (h : wi x y) (hy : y < 2 ^ n) : x < 2 ^ n := by
  apply Nat.lt_pow_two_of_testBit
  intro i hi
  cases hx : x.testBit i with
  | false => rfl
  | true =>
    have h2 := h i hx
    rw [Nat.testBit_lt_two_pow (Nat.lt_of_lt_of_le hy (Nat.pow_le_pow_right (by decide) hi))] at h2
    cases h2
theorem wi_anti {x y : Nat} (h : wi x y) (h2 : wi y x) : x = y := by
  apply Nat.eq_of_testBit_eq
  intro i
  cases hx : x.testBit i with
  | true => rw [h i hx]
  | false =>
    cases hy : y.testBit i with
    | false => rfl
    | true => rw [h2 i hy] at hx; cases hx
theorem wi_pc {x y : Nat} (h : wi x y) : pc x ≤ pc y := ct_sub (fun k _ => h k)
theorem wi_pc_lt {x y : Nat} (h : wi x y) (hy : y < 2 ^ 64) (hne : x ≠ y) : pc x < pc y := by
  refine Nat.lt_of_not_le fun hle => hne (wi_anti h fun i hi => ?_)
  cases hx : x.testBit i with
  | true => rfl
  | false =>
    have := ct_lt (p := x.testBit) (q := y.testBit) (bit_lt hy hi) (fun k _ => h k) hx hi
    exact absurd this (Nat.not_lt.mpr hle)
theorem spr_ext {a : Nat} (ha : a < 2 ^ 36) : wi a (spr a) := fun i h => by
  rw [spr_bit ha (bit_lt ha h), h]; rfl
/-- from some cells on, step by step over a set -/
def ir (set a : Nat) : Nat → Nat
  | 0 => a
  | k + 1 => spr (ir set a k) &&& set
theorem ir_wi {set a : Nat} (h : wi a set) : ∀ k, wi (ir set a k) set
  | 0 => h
  | k + 1 => wi_and_r _ _
theorem ir_lt {set a : Nat} (h : wi a set) (hs : set < 2 ^ 36) (k : Nat) : ir set a k < 2 ^ 36 := wi_lt (ir_wi h k) hs
theorem ir_up {set a : Nat} (h : wi a set) (hs : set < 2 ^ 36) (k : Nat) : wi (ir set a k) (ir set a (k + 1)) := fun i q => by
  show (spr (ir set a k) &&& set).testBit i = true
  rw [Nat.testBit_and, spr_ext (ir_lt h hs k) i q, ir_wi h k i q]
  rfl
theorem ir_stop {set a k : Nat} (h : ir set a (k + 1) = ir set a k) : ∀ j, k ≤ j → ir set a j = ir set a k := by
  intro j hj
  induction j with
  | zero => rw [show k = 0 by omega]
  | succ j ih =>
    rcases Nat.lt_or_ge j k with q | q
    · rw [show k = j + 1 by omega]
    · show spr (ir set a j) &&& set = _
      rw [ih q]
      exact h
theorem ir_grow {set a : Nat} (h : wi a set) (hs : set < 2 ^ 36) : ∀ k, (∀ j, j < k → ir set a (j + 1) ≠ ir set a j) → k ≤ pc (ir set a k)
  | 0, _ => Nat.zero_le _
  | k + 1, hne => by
    have h1 := ir_grow h hs k (fun j hj => hne j (by omega))
    have h2 := wi_pc_lt (ir_up h hs k) (Nat.lt_of_lt_of_le (ir_lt h hs (k + 1)) (by decide)) (fun e => hne k (by omega) e.symm)
    omega
theorem pc_36 {a : Nat} (ha : a < 2 ^ 36) : pc a ≤ 36 := by
  rw [pc_n ha (by decide)]
  exact ct_le _ _
/-- all cells of a set to which one can go -/
def rch (set a : Nat) : Nat := ir set a 36
theorem ir_fix {set a : Nat} (h : wi a set) (hs : set < 2 ^ 36) : ir set a 37 = ir set a 36 := by
  refine Classical.byContradiction fun hn => ?_
  have h1 := ir_grow h hs 37 (fun j hj e => hn (by rw [ir_stop e 37 (by omega), ir_stop e 36 (by omega)]))
  have h2 := pc_36 (ir_lt h hs 37)
  omega
theorem rch_wi {set a : Nat} (h : wi a set) : wi (rch set a) set := ir_wi h 36
theorem rch_from {set a : Nat} (h : wi a set) (hs : set < 2 ^ 36) : wi a (rch set a) := by
  have : ∀ k, wi a (ir set a k) := by
    intro k
    induction k with
    | zero => exact wi_rf a
    | succ k ih => exact wi_tr ih (ir_up h hs k)
  exact this 36
theorem X0_reach_L {set a : Nat} (h : wi a set) (hs : set < 2 ^ 36) {P0 P1 : Int64 → Prop} (h0 : P0 (lN (rch set a))) (h1 : P1 (lN (rch set a))) : ∀ (d j : Nat), j + d = 36 → q_X0_reach_L6 (lN set) P0 P1 (d + 1) (lN (ir set a j)) (nI j) := by
  intro d
  induction d with
  | zero =>
    intro j hj
    have e : j = 36 := by omega
    subst e
    rw [q_X0_reach_L6]
    exact ⟨fun _ => h0, fun c => absurd (by decide) c⟩
  | succ d ih =>
    intro j hj
    rw [q_X0_reach_L6]
    refine ⟨fun c => absurd c (nI_ge (b := 36) (by omega) (by decide)), fun _ => X0_spread_spec (ir_lt h hs j) ?_⟩
    simp only [xl]
    rw [pL_and, pcmp, nI_1]
    refine ⟨fun _ => ih (j + 1) (by omega), fun c => ?_⟩
    have e : ir set a (j + 1) = ir set a j := (pL_inj (Nat.lt_of_lt_of_le (ir_lt h hs (j + 1)) (by decide)) (Nat.lt_of_lt_of_le (ir_lt h hs j) (by decide))).mp c
    rw [← ir_stop e 36 (by omega)]
    exact h1
theorem X0_reach_spec {set a : Nat} (h : wi a set) (hs : set < 2 ^ 36) {P : Int64 → Prop} (hp : P (lN (rch set a))) : q_X0_reach (lN a) (lN set) P := ⟨37, X0_reach_L h hs hp hp 36 0 rfl⟩
theorem spr_0 : spr 0 = 0 := by decide +kernel
/-- the lowest bit of a number -/
def low (a : Nat) : Nat := (lN a &&& (-(lN a))).toBitVec.toNat
theorem low_eq (a : Nat) : lN a &&& (-(lN a)) = lN (low a) := by
  apply Int64.toBitVec_inj.mp
  show _ = BitVec.ofNat 64 _
  unfold low
  rw [BitVec.ofNat_toNat, BitVec.setWidth_eq]
theorem low_wi {a : Nat} (ha : a < 2 ^ 64) : wi (low a) a := fun i h => by
  have h1 : ((lN a).toBitVec &&& (-(lN a)).toBitVec).getLsbD i = true := h
  rw [BitVec.getLsbD_and, Bool.and_eq_true] at h1
  have h2 : (BitVec.ofNat 64 a).getLsbD i = true := h1.1
  rw [BitVec.getLsbD_ofNat, Bool.and_eq_true] at h2
  exact h2.2
theorem bv_neg (x : BitVec 64) : x + -x = 0#64 := by
  apply BitVec.eq_of_toNat_eq
  have := x.isLt
  simp only [BitVec.toNat_add, BitVec.toNat_neg, BitVec.toNat_ofNat]
  omega
theorem low_ne {a : Nat} (ha : a < 2 ^ 64) (h0 : a ≠ 0) : low a ≠ 0 := fun h => by
  have h1 : (lN a).toBitVec &&& -(lN a).toBitVec = 0#64 := BitVec.eq_of_toNat_eq h
  have h2 := BitVec.add_eq_or_of_and_eq_zero _ _ h1
  rw [bv_neg (lN a).toBitVec] at h2
  have h3 : (lN a).toBitVec = 0#64 := by
    apply BitVec.eq_of_getLsbD_eq
    intro i hi
    have := congrArg (fun x : BitVec 64 => x.getLsbD i) h2
    simp only [BitVec.getLsbD_or, BitVec.getLsbD_zero] at this
    rw [BitVec.getLsbD_zero]
    cases q : (lN a).toBitVec.getLsbD i with
    | false => rfl
    | true => rw [q] at this; simp at this
  have h4 : a % 2 ^ 64 = 0 := congrArg BitVec.toNat h3
  omega
/-- the piece that has the lowest cell -/
def pie (a : Nat) : Nat := rch a (low a)
theorem pie_wi {a : Nat} (ha : a < 2 ^ 36) : wi (pie a) a := rch_wi (low_wi (by omega))
theorem pie_lt {a : Nat} (ha : a < 2 ^ 36) : pie a < 2 ^ 36 := wi_lt (pie_wi ha) ha
theorem X0_pieceIn_spec {a : Nat} (ha : a < 2 ^ 36) {P : Int64 → Prop} (h : P (lN (pie a))) : q_X0_pieceIn (lN a) P := by
  unfold q_X0_pieceIn
  rw [low_eq]
  exact X0_reach_spec (low_wi (by omega)) ha h
theorem mi_wi (a b : Nat) : wi (mi a b) a := fun i h => by rw [mi_bit, Bool.and_eq_true] at h; exact h.1
theorem pie_less {a : Nat} (ha : a < 2 ^ 36) (h0 : a ≠ 0) : pc (mi a (pie a)) < pc a := by
  refine wi_pc_lt (mi_wi _ _) (by omega) (fun e => ?_)
  have hl := low_ne (a := a) (by omega) h0
  refine hl ((set_zero (n := 64) (by unfold low; exact BitVec.isLt _)).mpr fun k hk => ?_)
  cases q : (low a).testBit k with
  | false => rfl
  | true =>
    have h1 := rch_from (low_wi (by omega)) ha k q
    have h2 : (mi a (pie a)).testBit k = true := by rw [e]; exact low_wi (by omega) k q
    rw [mi_bit, Bool.and_eq_true] at h2
    rw [show (pie a).testBit k = true from h1] at h2
    cases h2.2
theorem pc_0 {a : Nat} (ha : a < 2 ^ 36) (h : pc a ≤ 0) : a = 0 := by
  refine (set_zero (n := 64) (by omega)).mpr fun k hk => ?_
  exact ct_zero.mp (Nat.le_zero.mp h) k hk
/-- how many pieces -/
def cp : Nat → Nat → Nat
  | 0, _ => 0
  | n + 1, a => if a = 0 then 0 else 1 + cp n (mi a (pie a))
theorem X0_countPieces_L {P0 : Int32 → Prop} : ∀ (d c a : Nat), c + d = 36 → a < 2 ^ 36 → pc a ≤ d → P0 (nI (c + cp d a)) → q_X0_countPieces_L5 P0 (d + 1) (lN a) (nI c) := by
  intro d
  induction d with
  | zero =>
    intro c a hc ha hp h
    have e : c = 36 := by omega
    subst e
    rw [q_X0_countPieces_L5]
    exact ⟨fun _ => h, fun c => absurd (by decide) c⟩
  | succ d ih =>
    intro c a hc ha hp h
    rw [q_X0_countPieces_L5]
    refine ⟨fun q => absurd q (nI_ge (b := 36) (by omega) (by decide)), fun _ => ?_⟩
    rw [pcmp, show (0 : Int64) = lN 0 from rfl, pL_inj (by omega) (by decide)]
    refine ⟨fun e => ?_, fun e => X0_pieceIn_spec ha ?_⟩
    · rw [cp, if_pos e] at h
      exact h
    · simp only [xl]
      rw [pL_mi, nI_1]
      rw [cp, if_neg e] at h
      have := pie_less ha e
      exact ih (c + 1) _ (by omega) (mi_lt ha) (by omega) (by rw [show c + 1 + cp d (mi a (pie a)) = c + (1 + cp d (mi a (pie a))) by omega]; exact h)
theorem X0_countPieces_spec {a : Nat} (ha : a < 2 ^ 36) {P : Int32 → Prop} (h : P (nI (cp 36 a))) : q_X0_countPieces (lN a) P := ⟨37, X0_countPieces_L 36 0 a rfl ha (pc_36 ha) (by rw [Nat.zero_add]; exact h)⟩
/-- how large the largest piece is -/
def lp : Nat → Nat → Nat → Nat
  | 0, m, _ => m
  | n + 1, m, a => if a = 0 then m else lp n (max m (pc (pie a))) (mi a (pie a))
theorem xmax_nI {a b : Nat} (ha : a < 2 ^ 31) (hb : b < 2 ^ 31) : xmax (nI a) (nI b) = nI (max a b) := by
  unfold xmax
  by_cases h : a < b
  · rw [if_pos (nI_lt h hb), Nat.max_eq_right (by omega)]
  · rw [if_neg (nI_nlt (by omega) ha), Nat.max_eq_left (by omega)]
theorem X0_largest_L {P0 : Int32 → Prop} : ∀ (d c m a : Nat), c + d = 36 → m ≤ 36 → a < 2 ^ 36 → pc a ≤ d → P0 (nI (lp d m a)) → q_X0_largestPiece_L16 P0 (d + 1) (nI m) (lN a) (nI c) := by
  intro d
  induction d with
  | zero =>
    intro c m a hc hm ha hp h
    have e : c = 36 := by omega
    subst e
    rw [q_X0_largestPiece_L16]
    exact ⟨fun _ => h, fun c => absurd (by decide) c⟩
  | succ d ih =>
    intro c m a hc hm ha hp h
    rw [q_X0_largestPiece_L16]
    refine ⟨fun q => absurd q (nI_ge (b := 36) (by omega) (by decide)), fun _ => ?_⟩
    rw [pcmp, show (0 : Int64) = lN 0 from rfl, pL_inj (by omega) (by decide)]
    refine ⟨fun e => ?_, fun e => X0_pieceIn_spec ha (J13_spec (pie_lt ha) ?_)⟩
    · rw [lp, if_pos e] at h
      exact h
    · simp only [xl]
      have h36 := pc_36 (pie_lt ha)
      rw [pL_mi, nI_1, xmax_nI (by omega) (by omega)]
      rw [lp, if_neg e] at h
      have := pie_less ha e
      exact ih (c + 1) _ _ (by omega) (by omega) (mi_lt ha) (by omega) h
