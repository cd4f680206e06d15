/-! the pure side: sets of countries all, or none, neighbours of one another; allNeighbours -/
theorem bt_raw0 : ∀ h : Fin 32, ∀ l : Fin 32, ∀ k : Fin 10, decide (((nI (32 * h.val + l.val) >>> (nI k.val &&& 31)) &&& (1 : Int32)) = (0 : Int32)) = !(32 * h.val + l.val).testBit k.val := by decide +kernel
theorem pI_tb0 {a k : Nat} (ha : a < 1024) (hk : k < 10) : ((nI a >>> (nI k &&& 31)) &&& (1 : Int32)) = (0 : Int32) ↔ a.testBit k = false := by
  have := bt_raw0 ⟨a / 32, by omega⟩ ⟨a % 32, by omega⟩ ⟨k, hk⟩
  rw [show 32 * (a / 32) + a % 32 = a from by omega] at this
  refine decide_eq_true_iff.symm.trans ?_
  rw [this]
  cases a.testBit k <;> simp
/-- one country of a set: all, or none, of the others are its neighbours -/
def aq (n : Nat → Nat) (all : Bool) (s k : Nat) : Bool := !s.testBit k || decide (n k &&& mi s (2 ^ k) = if all = true then mi s (2 ^ k) else 0)
def clb (n : Nat → Nat) (s : Nat) : Bool := al (aq n true s) 10
def idb (n : Nat → Nat) (s : Nat) : Bool := al (aq n false s) 10
theorem mp_bit {s k j : Nat} : (mi s (2 ^ k)).testBit j = (s.testBit j && !decide (k = j)) := by
  rw [mi_bit, Nat.testBit_two_pow]
theorem clb_iff {n : Nat → Nat} {s : Nat} (hs : s < 1024) : clb n s = true ↔ ∀ i j, i < 10 → j < 10 → s.testBit i = true → s.testBit j = true → i ≠ j → (n i).testBit j = true := by
  unfold clb
  rw [al_iff]
  constructor
  · intro h i j hi hj h1 h2 h3
    have := h i hi
    unfold aq at this
    rw [h1, Bool.not_true, Bool.false_or, decide_eq_true_iff, if_pos rfl] at this
    have e := congrArg (fun x : Nat => x.testBit j) this
    simp only [Nat.testBit_and, mp_bit, h2, Bool.true_and, decide_eq_false h3, Bool.not_false, Bool.and_true] at e
    exact e
  · intro h i hi
    unfold aq
    cases h1 : s.testBit i with
    | false => rfl
    | true =>
      rw [Bool.not_true, Bool.false_or, decide_eq_true_iff, if_pos rfl]
      refine set_eq (n := 10) (and_ltR (mi_lt (n := 10) hs)) (mi_lt (n := 10) hs) (fun j hj => ?_)
      rw [Nat.testBit_and, mp_bit]
      by_cases e : i = j
      · rw [decide_eq_true e, Bool.not_true, Bool.and_false, Bool.and_false]
      · cases h2 : s.testBit j with
        | false => rw [Bool.false_and, Bool.and_false]
        | true => rw [h i j hi hj h1 h2 e, Bool.true_and]
theorem idb_iff {n : Nat → Nat} {s : Nat} (hs : s < 1024) : idb n s = true ↔ ∀ i j, i < 10 → j < 10 → s.testBit i = true → s.testBit j = true → i ≠ j → (n i).testBit j = false := by
  unfold idb
  rw [al_iff]
  constructor
  · intro h i j hi hj h1 h2 h3
    have := h i hi
    unfold aq at this
    rw [h1, Bool.not_true, Bool.false_or, decide_eq_true_iff, if_neg (by decide)] at this
    have e := congrArg (fun x : Nat => x.testBit j) this
    simp only [Nat.testBit_and, mp_bit, h2, Bool.true_and, decide_eq_false h3, Bool.not_false, Bool.and_true, Nat.zero_testBit] at e
    exact e
  · intro h i hi
    unfold aq
    cases h1 : s.testBit i with
    | false => rfl
    | true =>
      rw [Bool.not_true, Bool.false_or, decide_eq_true_iff, if_neg (by decide)]
      refine (set_zero (n := 10) (and_ltR (mi_lt (n := 10) hs))).mpr (fun j hj => ?_)
      rw [Nat.testBit_and, mp_bit]
      by_cases e : i = j
      · rw [decide_eq_true e, Bool.not_true, Bool.and_false, Bool.and_false]
      · cases h2 : s.testBit j with
        | false => rw [Bool.false_and, Bool.and_false]
        | true => rw [h i j hi hj h1 h2 e, Bool.false_and]
theorem orp_bit {s k j : Nat} : (s ||| 2 ^ k).testBit j = (s.testBit j || decide (k = j)) := by
  rw [Nat.testBit_or, Nat.testBit_two_pow]
theorem orp_add {s k : Nat} (hs : s < 2 ^ k) : s ||| 2 ^ k = 2 ^ k + s := by
  have := Nat.two_pow_add_eq_or_of_lt hs 1
  rw [Nat.mul_one] at this
  rw [this, Nat.or_comm]
theorem pow_le10 {k : Nat} (hk : k < 10) : 2 ^ k ≤ 512 := Nat.pow_le_pow_right (n := 2) (j := 9) (by decide) (by omega)
theorem nar0 : vp_nar .boolean (0 : Int32) = 0 := rfl
theorem nar1 : vp_nar .boolean (1 : Int32) = 1 := rfl

theorem clb_step {n : Nat → Nat} (g : Gr n) {m k : Nat} (hk : k < 10) (hm : m < 2 ^ k) : clb n (m ||| 2 ^ k) = true ↔ clb n m = true ∧ mi m (n k) = 0 := by
  have hk2 := pow_le10 hk
  have h1 : m ||| 2 ^ k < 1024 := by rw [orp_add hm]; omega
  have hml : ∀ i, m.testBit i = true → i < k := fun i hi => bit_lt hm hi
  rw [clb_iff h1, clb_iff (show m < 1024 by omega), set_zero (n := 10) (mi_lt (n := 10) (show m < 1024 by omega))]
  constructor
  · intro h
    refine ⟨fun i j hi hj a b e => h i j hi hj (by rw [orp_bit, a]; rfl) (by rw [orp_bit, b]; rfl) e, fun j hj => ?_⟩
    rw [mi_bit]
    cases b : m.testBit j with
    | false => rfl
    | true =>
      have := hml j b
      rw [h k j hk hj (by rw [orp_bit, decide_eq_true rfl, Bool.or_true]) (by rw [orp_bit, b]; rfl) (by omega)]
      rfl
  · rintro ⟨h2, h3⟩ i j hi hj a b e
    rw [orp_bit, Bool.or_eq_true, decide_eq_true_iff] at a b
    have key : ∀ j, j < 10 → m.testBit j = true → (n k).testBit j = true := fun j hj b => by
      have := h3 j hj
      rw [mi_bit, b, Bool.true_and] at this
      cases q : (n k).testBit j <;> simp_all
    rcases a with a | rfl
    · rcases b with b | rfl
      · exact h2 i j hi hj a b e
      · rw [g.2.1 i k hi hk]
        exact key i hi a
    · rcases b with b | rfl
      · exact key j hj b
      · exact absurd rfl e
theorem markSetsOfNeighbours_L17 {n : Nat → Nat} (g : Gr n) {near : Nat → Int32} (hn : ∀ k, k < 10 → near k = nI (n k)) {k : Nat} (hk : k < 10) {P0 : (Nat → Int32) → Prop} (h : ∀ F, (∀ s, s < 2 ^ k + 2 ^ k → (¬ F s = 0 ↔ clb n s = true)) → P0 F) : ∀ (d m : Nat) (F : Nat → Int32), m + d = 2 ^ k → (∀ s, s < 2 ^ k + m → (¬ F s = 0 ↔ clb n s = true)) → q_X0_markSetsOfNeighbours_L17 (nI k) near P0 (d + 1) (nI m) F := by
  have hk2 := pow_le10 hk
  intro d
  induction d with
  | zero =>
    intro m F hd e
    have : m = 2 ^ k := by omega
    subst this
    rw [q_X0_markSetsOfNeighbours_L17, pI_bit (by omega)]
    exact ⟨fun _ => h F e, fun q => absurd (nI_le (Nat.le_refl _) (by omega)) q⟩
  | succ d ih =>
    intro m F hd e
    have hm : m < 2 ^ k := by omega
    have h1 : m ||| 2 ^ k = 2 ^ k + m := orp_add hm
    have xo := xin_nI (show m ||| 2 ^ k < 1024 by omega) (by decide)
    have em := e m (by omega)
    have st := clb_step g hk hm
    have go : ∀ y, (¬ y = 0 ↔ clb n (m ||| 2 ^ k) = true) → q_X0_markSetsOfNeighbours_L17 (nI k) near P0 (d + 1) (nI (m + 1)) (upd F (m ||| 2 ^ k) y) := fun y hy => ih (m + 1) _ (by omega) (fun s hs => by
      by_cases q : s = m ||| 2 ^ k
      · subst q; rw [upI_s]; exact hy
      · rw [upI_n q]; exact e s (by omega))
    rw [q_X0_markSetsOfNeighbours_L17, pI_bit (by omega)]
    refine ⟨fun q => absurd q (nI_ge hm (by omega)), fun _ => ⟨xin_nI (show m < 1024 by omega) (by decide), ?_⟩⟩
    rw [pI_or, nI_1, nI_clamp (n := m) (by omega), nI_clamp (n := m ||| 2 ^ k) (by omega), nI_clamp (n := k) (by omega), hn k hk, nar0, nar1]
    rw [pI_mi, pI_eq0 (Nat.lt_of_lt_of_le (mi_lt (n := 10) (show m < 1024 by omega)) (by decide))]
    refine ⟨fun q => ⟨xo, go 0 ?_⟩, fun q => ⟨xin_nI hk (by decide), fun q2 => ⟨xo, go 0 ?_⟩, fun q2 => ⟨xo, go 1 ?_⟩⟩⟩
    · exact ⟨fun z => absurd rfl z, fun z => absurd q (em.mpr (st.mp z).1)⟩
    · exact ⟨fun z => absurd rfl z, fun z => absurd (st.mp z).2 q2⟩
    · exact ⟨fun _ => st.mpr ⟨em.mp q, q2⟩, fun _ => by decide⟩
theorem markSetsOfNeighbours_L9 {n : Nat → Nat} (g : Gr n) {near : Nat → Int32} (hn : ∀ k, k < 10 → near k = nI (n k)) {P0 : (Nat → Int32) → Prop} (h : ∀ F, (∀ s, s < 1024 → (¬ F s = 0 ↔ clb n s = true)) → P0 F) : ∀ (d k : Nat) (F : Nat → Int32), k + d = 10 → (∀ s, s < 2 ^ k → (¬ F s = 0 ↔ clb n s = true)) → q_X0_markSetsOfNeighbours_L9 near P0 (d + 1) (nI k) F := by
  intro d
  induction d with
  | zero =>
    intro k F hk e
    have : k = 10 := by omega
    subst this
    rw [q_X0_markSetsOfNeighbours_L9]
    exact ⟨fun _ => h F e, fun q => absurd (by decide) q⟩
  | succ d ih =>
    intro k F hk e
    rw [q_X0_markSetsOfNeighbours_L9]
    refine ⟨fun q => absurd q (ge10 (by omega)), fun _ => ⟨2 ^ k + 1, ?_⟩⟩
    rw [nI_1]
    exact markSetsOfNeighbours_L17 g hn (by omega) (fun F2 e2 => ih (k + 1) F2 (by omega) (fun s hs => e2 s (by rw [Nat.pow_succ] at hs; omega))) (2 ^ k) 0 F (by omega) e
theorem markSetsOfNeighbours_spec {n : Nat → Nat} (g : Gr n) {near : Nat → Int32} (hn : ∀ k, k < 10 → near k = nI (n k)) {fits : Nat → Int32} {P : (Nat → Int32) → Prop} (h : ∀ F, (∀ s, s < 1024 → (¬ F s = 0 ↔ clb n s = true)) → P F) : q_X0_markSetsOfNeighbours near fits P := by
  refine ⟨xin_nI (k := 0) (by decide) (by decide), 11, markSetsOfNeighbours_L9 g hn h 10 0 _ rfl (fun s hs => ?_)⟩
  have : s = 0 := by
    have : (2 : Nat) ^ 0 = 1 := rfl
    omega
  subst this
  rw [show (0 : Int32).toNatClampNeg = 0 from rfl, upI_s, nar1]
  refine ⟨fun _ => ?_, fun _ => by decide⟩
  rw [clb_iff (by decide)]
  intro i j _ _ a
  rw [Nat.zero_testBit] at a
  cases a

theorem idb_step {n : Nat → Nat} (g : Gr n) {m k : Nat} (hk : k < 10) (hm : m < 2 ^ k) : idb n (m ||| 2 ^ k) = true ↔ idb n m = true ∧ m &&& n k = 0 := by
  have hk2 := pow_le10 hk
  have h1 : m ||| 2 ^ k < 1024 := by rw [orp_add hm]; omega
  have hml : ∀ i, m.testBit i = true → i < k := fun i hi => bit_lt hm hi
  rw [idb_iff h1, idb_iff (show m < 1024 by omega), set_zero (n := 10) (and_lt (n := 10) (show m < 1024 by omega))]
  constructor
  · intro h
    refine ⟨fun i j hi hj a b e => h i j hi hj (by rw [orp_bit, a]; rfl) (by rw [orp_bit, b]; rfl) e, fun j hj => ?_⟩
    rw [Nat.testBit_and]
    cases b : m.testBit j with
    | false => rfl
    | true =>
      have := hml j b
      rw [h k j hk hj (by rw [orp_bit, decide_eq_true rfl, Bool.or_true]) (by rw [orp_bit, b]; rfl) (by omega)]
      rfl
  · rintro ⟨h2, h3⟩ i j hi hj a b e
    rw [orp_bit, Bool.or_eq_true, decide_eq_true_iff] at a b
    have key : ∀ j, j < 10 → m.testBit j = true → (n k).testBit j = false := fun j hj b => by
      have := h3 j hj
      rw [Nat.testBit_and, b, Bool.true_and] at this
      exact this
    rcases a with a | rfl
    · rcases b with b | rfl
      · exact h2 i j hi hj a b e
      · rw [g.2.1 i k hi hk]
        exact key i hi a
    · rcases b with b | rfl
      · exact key j hj b
      · exact absurd rfl e
theorem markSetsWithoutNeighbours_L17 {n : Nat → Nat} (g : Gr n) {near : Nat → Int32} (hn : ∀ k, k < 10 → near k = nI (n k)) {k : Nat} (hk : k < 10) {P0 : (Nat → Int32) → Prop} (h : ∀ F, (∀ s, s < 2 ^ k + 2 ^ k → (¬ F s = 0 ↔ idb n s = true)) → P0 F) : ∀ (d m : Nat) (F : Nat → Int32), m + d = 2 ^ k → (∀ s, s < 2 ^ k + m → (¬ F s = 0 ↔ idb n s = true)) → q_X0_markSetsWithoutNeighbours_L17 (nI k) near P0 (d + 1) (nI m) F := by
  have hk2 := pow_le10 hk
  intro d
  induction d with
  | zero =>
    intro m F hd e
    have : m = 2 ^ k := by omega
    subst this
    rw [q_X0_markSetsWithoutNeighbours_L17, pI_bit (by omega)]
    exact ⟨fun _ => h F e, fun q => absurd (nI_le (Nat.le_refl _) (by omega)) q⟩
  | succ d ih =>
    intro m F hd e
    have hm : m < 2 ^ k := by omega
    have h1 : m ||| 2 ^ k = 2 ^ k + m := orp_add hm
    have xo := xin_nI (show m ||| 2 ^ k < 1024 by omega) (by decide)
    have em := e m (by omega)
    have st := idb_step g hk hm
    have go : ∀ y, (¬ y = 0 ↔ idb n (m ||| 2 ^ k) = true) → q_X0_markSetsWithoutNeighbours_L17 (nI k) near P0 (d + 1) (nI (m + 1)) (upd F (m ||| 2 ^ k) y) := fun y hy => ih (m + 1) _ (by omega) (fun s hs => by
      by_cases q : s = m ||| 2 ^ k
      · subst q; rw [upI_s]; exact hy
      · rw [upI_n q]; exact e s (by omega))
    rw [q_X0_markSetsWithoutNeighbours_L17, pI_bit (by omega)]
    refine ⟨fun q => absurd q (nI_ge hm (by omega)), fun _ => ⟨xin_nI (show m < 1024 by omega) (by decide), ?_⟩⟩
    rw [pI_or, nI_1, nI_clamp (n := m) (by omega), nI_clamp (n := m ||| 2 ^ k) (by omega), nI_clamp (n := k) (by omega), hn k hk, nar0, nar1]
    rw [pI_and, pI_eq0 (Nat.lt_of_lt_of_le (and_lt (n := 10) (show m < 1024 by omega)) (by decide))]
    refine ⟨fun q => ⟨xo, go 0 ?_⟩, fun q => ⟨xin_nI hk (by decide), fun q2 => ⟨xo, go 0 ?_⟩, fun q2 => ⟨xo, go 1 ?_⟩⟩⟩
    · exact ⟨fun z => absurd rfl z, fun z => absurd q (em.mpr (st.mp z).1)⟩
    · exact ⟨fun z => absurd rfl z, fun z => absurd (st.mp z).2 q2⟩
    · exact ⟨fun _ => st.mpr ⟨em.mp q, q2⟩, fun _ => by decide⟩
theorem markSetsWithoutNeighbours_L9 {n : Nat → Nat} (g : Gr n) {near : Nat → Int32} (hn : ∀ k, k < 10 → near k = nI (n k)) {P0 : (Nat → Int32) → Prop} (h : ∀ F, (∀ s, s < 1024 → (¬ F s = 0 ↔ idb n s = true)) → P0 F) : ∀ (d k : Nat) (F : Nat → Int32), k + d = 10 → (∀ s, s < 2 ^ k → (¬ F s = 0 ↔ idb n s = true)) → q_X0_markSetsWithoutNeighbours_L9 near P0 (d + 1) (nI k) F := by
  intro d
  induction d with
  | zero =>
    intro k F hk e
    have : k = 10 := by omega
    subst this
    rw [q_X0_markSetsWithoutNeighbours_L9]
    exact ⟨fun _ => h F e, fun q => absurd (by decide) q⟩
  | succ d ih =>
    intro k F hk e
    rw [q_X0_markSetsWithoutNeighbours_L9]
    refine ⟨fun q => absurd q (ge10 (by omega)), fun _ => ⟨2 ^ k + 1, ?_⟩⟩
    rw [nI_1]
    exact markSetsWithoutNeighbours_L17 g hn (by omega) (fun F2 e2 => ih (k + 1) F2 (by omega) (fun s hs => e2 s (by rw [Nat.pow_succ] at hs; omega))) (2 ^ k) 0 F (by omega) e
theorem markSetsWithoutNeighbours_spec {n : Nat → Nat} (g : Gr n) {near : Nat → Int32} (hn : ∀ k, k < 10 → near k = nI (n k)) {fits : Nat → Int32} {P : (Nat → Int32) → Prop} (h : ∀ F, (∀ s, s < 1024 → (¬ F s = 0 ↔ idb n s = true)) → P F) : q_X0_markSetsWithoutNeighbours near fits P := by
  refine ⟨xin_nI (k := 0) (by decide) (by decide), 11, markSetsWithoutNeighbours_L9 g hn h 10 0 _ rfl (fun s hs => ?_)⟩
  have : s = 0 := by
    have : (2 : Nat) ^ 0 = 1 := rfl
    omega
  subst this
  rw [show (0 : Int32).toNatClampNeg = 0 from rfl, upI_s, nar1]
  refine ⟨fun _ => ?_, fun _ => by decide⟩
  rw [idb_iff (by decide)]
  intro i j _ _ a
  rw [Nat.zero_testBit] at a
  cases a

def mq (n : Nat → Nat) (th : Nat) : Nat → Nat
  | 0 => 0
  | s + 1 => if (decide (mi s th = 0) && clb n s) = true then max (mq n th s) (pc s) else mq n th s
theorem mq_le {n : Nat → Nat} {th : Nat} : ∀ {s : Nat}, s ≤ 1024 → mq n th s ≤ 10
  | 0, _ => Nat.zero_le _
  | s + 1, h => by
    have h1 := mq_le (n := n) (th := th) (s := s) (by omega)
    have h2 := pc_10 (show s < 1024 by omega)
    rw [mq]
    split <;> omega
theorem ge1024 {k : Nat} (h : k < 1024) : ¬ (1024 : Int32) ≤ nI k := nI_ge (b := 1024) h (by decide)
theorem X0_alln_L {n : Nat → Nat} {th : Nat} {F : Nat → Int32} (hF : ∀ s, s < 1024 → (¬ F s = 0 ↔ clb n s = true)) {P0 : Int32 → Prop} (h : P0 (nI (mq n th 1024))) : ∀ (d s : Nat), s + d = 1024 → q_X0_allNeighbours_L8 (nI th) F P0 (d + 1) (nI (mq n th s)) (nI s) := by
  intro d
  induction d with
  | zero =>
    intro s hs
    have : s = 1024 := by omega
    subst this
    rw [q_X0_allNeighbours_L8]
    exact ⟨fun _ => h, fun q => absurd (by decide) q⟩
  | succ d ih =>
    intro s hs
    have hs2 : s < 1024 := by omega
    have := ih (s + 1) (by omega)
    rw [mq] at this
    have hl := mq_le (n := n) (th := th) (s := s) (by omega)
    have hp := pc_10 hs2
    have hm : mi s th < 1024 := mi_lt (n := 10) hs2
    rw [q_X0_allNeighbours_L8]
    refine ⟨fun q => absurd q (ge1024 hs2), fun _ => ⟨xin_nI hs2 (by decide), ?_⟩⟩
    rw [nI_clamp (n := s) (by omega), pI_mi, pI_eq0 (by omega), nI_1]
    have hFs := hF s hs2
    refine ⟨fun q => ?_, fun q => ⟨fun q2 => ?_, fun q2 => J6_spec hs2 (xl_i ?_)⟩⟩
    · rw [if_neg (fun z => ?_)] at this
      · exact this
      · rw [Bool.and_eq_true] at z
        exact hFs.mpr z.2 q
    · rw [decide_eq_false q2, Bool.false_and, if_neg (by decide)] at this
      exact this
    · rw [decide_eq_true q2, hFs.mp q, if_pos (by decide)] at this
      rw [xmax_nI (by omega) (by omega)]
      exact this
