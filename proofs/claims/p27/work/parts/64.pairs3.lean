/-! the pure side: tintings by pairs, the class -/
theorem str_iff {n : Nat → Nat} {s k : Nat} (hs : s < 1024) : mi (mi s (n k)) (2 ^ k) = 0 ↔ ∀ j, j < 10 → s.testBit j = true → k ≠ j → (n k).testBit j = true := by
  rw [set_zero (n := 10) (mi_lt (n := 10) (mi_lt (n := 10) hs))]
  constructor
  · intro h j hj a c
    have := h j hj
    rw [mp_bit, mi_bit, a, decide_eq_false c, Bool.not_false, Bool.and_true, Bool.true_and, Bool.not_eq_false'] at this
    exact this
  · intro h j hj
    rw [mp_bit, mi_bit]
    by_cases c : k = j
    · rw [decide_eq_true c, Bool.not_true, Bool.and_false]
    · cases a : s.testBit j with
      | false => rw [Bool.false_and, Bool.false_and]
      | true => rw [h j hj a c]; rfl
theorem cq_iff {n : Nat → Nat} {s : Nat} (hs : s < 1024) : Cq n s ↔ ∀ k, k < 10 → s.testBit k = true → mi (mi s (n k)) (2 ^ k) = 0 := by
  constructor
  · intro h k hk a
    exact (str_iff hs).mpr fun j hj b c => h k j hk hj a b c
  · intro h i j hi hj a b c
    exact (str_iff hs).mp (h i hi a) j hj b c
theorem areAll_L {n : Nat → Nat} {near : Nat → Int32} (hn : ∀ k, k < 10 → near k = nI (n k)) {s : Nat} (hs : s < 1024) {P0 P1 : Prop} (h1 : Cq n s → P0) (h0 : ¬ Cq n s → P1) : ∀ (d k : Nat), k + d = 10 → (∀ i, i < k → s.testBit i = true → mi (mi s (n i)) (2 ^ i) = 0) → q_X0_areAllNeighbours_L2 (nI s) near P0 P1 (d + 1) (nI k) := by
  intro d
  induction d with
  | zero =>
    intro k hk e
    have : k = 10 := by omega
    subst this
    rw [q_X0_areAllNeighbours_L2]
    exact ⟨fun _ => h1 ((cq_iff hs).mpr e), fun q => absurd (by decide) q⟩
  | succ d ih =>
    intro k hk e
    have hm : mi (mi s (n k)) (2 ^ k) < 1024 := mi_lt (n := 10) (mi_lt (n := 10) hs)
    have nx : (s.testBit k = true → mi (mi s (n k)) (2 ^ k) = 0) → q_X0_areAllNeighbours_L2 (nI s) near P0 P1 (d + 1) (nI (k + 1)) := fun q => ih (k + 1) (by omega) (fun i hi a => by
      rcases Nat.lt_succ_iff_lt_or_eq.mp hi with h | rfl
      · exact e i h a
      · exact q a)
    rw [q_X0_areAllNeighbours_L2]
    refine ⟨fun q => absurd q (ge10 (by omega)), fun _ => has_spec (by omega) (fun q => ⟨fun _ => ?_, fun z => absurd rfl z⟩) (fun q => ⟨fun z => absurd z (by decide), fun _ => ⟨xin_nI (by omega) (by decide), ?_⟩⟩)⟩
    · rw [nI_1]
      exact nx (fun a => by rw [q] at a; cases a)
    · rw [nI_clamp (n := k) (by omega), hn k (by omega), pI_bit (by omega), pI_mi, pI_mi, pI_eq0 (by omega), nI_1]
      exact ⟨fun z => nx (fun _ => z), fun z => h0 (fun c => z ((cq_iff hs).mp c k (by omega) q))⟩
theorem areAll_spec {n : Nat → Nat} {near : Nat → Int32} (hn : ∀ k, k < 10 → near k = nI (n k)) {s : Nat} (hs : s < 1024) {P : Int32 → Prop} (h1 : Cq n s → P 1) (h0 : ¬ Cq n s → P 0) : q_X0_areAllNeighbours (nI s) near P :=
  ⟨11, areAll_L hn hs (fun c => ⟨xb1, h1 c⟩) (fun c => ⟨xb0, h0 c⟩) 10 0 rfl (fun i hi => absurd hi (Nat.not_lt_zero i))⟩
theorem last_L {n : Nat → Nat} {near : Nat → Int32} (hn : ∀ k, k < 10 → near k = nI (n k)) {S : Nat} (hS : S < 1024) {P0 : Prop} {P1 : Int32 → Prop} (h1 : ∀ v, v < 10 → S.testBit v = true → Cq n (n v &&& S) → P1 (nI v)) (h0 : (∀ v, v < 10 → S.testBit v = true → ¬ Cq n (n v &&& S)) → P0) : ∀ (d k : Nat), k + d = 10 → (∀ i, i < k → S.testBit i = true → ¬ Cq n (n i &&& S)) → q_X0_oneToTintLast_L2 (nI S) near P0 P1 (d + 1) (nI k) := by
  intro d
  induction d with
  | zero =>
    intro k hk e
    have : k = 10 := by omega
    subst this
    rw [q_X0_oneToTintLast_L2]
    exact ⟨fun _ => h0 e, fun q => absurd (by decide) q⟩
  | succ d ih =>
    intro k hk e
    have nx : (S.testBit k = true → ¬ Cq n (n k &&& S)) → q_X0_oneToTintLast_L2 (nI S) near P0 P1 (d + 1) (nI (k + 1)) := fun q => ih (k + 1) (by omega) (fun i hi a => by
      rcases Nat.lt_succ_iff_lt_or_eq.mp hi with h | rfl
      · exact e i h a
      · exact q a)
    rw [q_X0_oneToTintLast_L2]
    refine ⟨fun q => absurd q (ge10 (by omega)), fun _ => has_spec (by omega) (fun q => ⟨fun _ => ?_, fun z => absurd rfl z⟩) (fun q => ⟨fun z => absurd z (by decide), fun _ => ⟨xin_nI (by omega) (by decide), ?_⟩⟩)⟩
    · rw [nI_1]
      exact nx (fun a => by rw [q] at a; cases a)
    · rw [nI_clamp (n := k) (by omega), hn k (by omega), pI_and, nI_1]
      exact areAll_spec hn (and_ltR (n := 10) hS) (fun c => ⟨fun z => absurd z (by decide), fun _ => h1 k (by omega) q c⟩) (fun c => ⟨fun _ => nx (fun _ => c), fun z => absurd rfl z⟩)
theorem last_spec {n : Nat → Nat} {near : Nat → Int32} (hn : ∀ k, k < 10 → near k = nI (n k)) {S : Nat} (hS : S < 1024) {P : Int32 → Prop} (h1 : ∀ v, v < 10 → S.testBit v = true → Cq n (n v &&& S) → P (nI v)) (h0 : (∀ v, v < 10 → S.testBit v = true → ¬ Cq n (n v &&& S)) → P (-1)) : q_X0_oneToTintLast (nI S) near P :=
  ⟨11, last_L hn hS h1 h0 10 0 rfl (fun i hi => absurd hi (Nat.not_lt_zero i))⟩
theorem ge9 {k : Nat} (h : k < 9) : ¬ (9 : Int32) ≤ nI k := nI_ge (b := 9) h (by decide)
theorem str_L {n : Nat → Nat} {near : Nat → Int32} (hn : ∀ k, k < 10 → near k = nI (n k)) {S : Nat} (hS : S < 1024) {P0 : Prop} {P1 : Int32 → Prop} (h1 : ∀ v, v < 9 → S.testBit v = true → mi (mi S (n v)) (2 ^ v) ≠ 0 → P1 (nI v)) (hex : ∃ v, v < 9 ∧ S.testBit v = true ∧ mi (mi S (n v)) (2 ^ v) ≠ 0) : ∀ (d k : Nat), k + d = 9 → (∀ i, i < k → S.testBit i = true → mi (mi S (n i)) (2 ^ i) = 0) → q_X0_firstWithStranger_L2 (nI S) near P0 P1 (d + 1) (nI k) := by
  intro d
  induction d with
  | zero =>
    intro k hk e
    obtain ⟨v, hv, a, b⟩ := hex
    exact absurd (e v (by omega) a) b
  | succ d ih =>
    intro k hk e
    have hm : mi (mi S (n k)) (2 ^ k) < 1024 := mi_lt (n := 10) (mi_lt (n := 10) hS)
    have nx : (S.testBit k = true → mi (mi S (n k)) (2 ^ k) = 0) → q_X0_firstWithStranger_L2 (nI S) near P0 P1 (d + 1) (nI (k + 1)) := fun q => ih (k + 1) (by omega) (fun i hi a => by
      rcases Nat.lt_succ_iff_lt_or_eq.mp hi with h | rfl
      · exact e i h a
      · exact q a)
    rw [q_X0_firstWithStranger_L2]
    refine ⟨fun q => absurd q (ge9 (by omega)), fun _ => has_spec (by omega) (fun q => ⟨fun _ => ?_, fun z => absurd rfl z⟩) (fun q => ⟨fun z => absurd z (by decide), fun _ => ⟨xin_nI (by omega) (by decide), ?_⟩⟩)⟩
    · rw [nI_1]
      exact nx (fun a => by rw [q] at a; cases a)
    · rw [nI_clamp (n := k) (by omega), hn k (by omega), pI_bit (by omega), pI_mi, pI_mi, pI_eq0 (by omega), nI_1]
      exact ⟨fun z => nx (fun _ => z), fun z => h1 k (by omega) q z⟩
theorem str_spec {n : Nat → Nat} {near : Nat → Int32} (hn : ∀ k, k < 10 → near k = nI (n k)) {S : Nat} (hS : S < 1024) {P : Int32 → Prop} (hex : ∃ v, v < 9 ∧ S.testBit v = true ∧ mi (mi S (n v)) (2 ^ v) ≠ 0) (h1 : ∀ v, v < 9 → S.testBit v = true → mi (mi S (n v)) (2 ^ v) ≠ 0 → P (nI v)) : q_X0_firstWithStranger (nI S) near P :=
  ⟨10, str_L hn hS h1 hex 9 0 rfl (fun i hi => absurd hi (Nat.not_lt_zero i))⟩
theorem firstOf_L {s : Nat} (hs : s < 1024) (h0 : s ≠ 0) {P : Int32 → Prop} (h1 : ∀ v, v < 10 → s.testBit v = true → P (nI v)) : ∀ (d k : Nat), k + d = 9 → (∀ i, i < k → s.testBit i = false) → q_X0_firstOf_L2 (nI s) (P (9 : Int32)) P (d + 1) (nI k) := by
  intro d
  induction d with
  | zero =>
    intro k hk e
    have : k = 9 := by omega
    subst this
    rw [q_X0_firstOf_L2]
    refine ⟨fun _ => h1 9 (by decide) ?_, fun q => absurd (by decide) q⟩
    obtain ⟨i, hi, a⟩ := (set_ne0 (n := 10) hs).mp h0
    rcases Nat.lt_or_ge i 9 with q | q
    · rw [e i q] at a; cases a
    · rw [show (9 : Nat) = i by omega]; exact a
  | succ d ih =>
    intro k hk e
    rw [q_X0_firstOf_L2]
    refine ⟨fun q => absurd q (ge9 (by omega)), fun _ => has_spec (by omega) (fun q => ⟨fun _ => ?_, fun z => absurd rfl z⟩) (fun q => ⟨fun z => absurd z (by decide), fun _ => h1 k (by omega) q⟩)⟩
    rw [nI_1]
    refine ih (k + 1) (by omega) (fun i hi => ?_)
    rcases Nat.lt_succ_iff_lt_or_eq.mp hi with h | rfl
    · exact e i h
    · exact q
theorem firstOf_spec {s : Nat} (hs : s < 1024) (h0 : s ≠ 0) {P : Int32 → Prop} (h1 : ∀ v, v < 10 → s.testBit v = true → P (nI v)) : q_X0_firstOf (nI s) P :=
  ⟨10, firstOf_L hs h0 h1 9 0 rfl (fun i hi => absurd hi (Nat.not_lt_zero i))⟩
/-- two joined as neighbours; two made one -/
def jn (n : Nat → Nat) (u w : Nat) : Nat → Nat := fun i => if i = u then n u ||| 2 ^ w else if i = w then n w ||| 2 ^ u else n i
def mk1 (n : Nat → Nat) (u w : Nat) : Nat → Nat := fun i => if (n i).testBit w = true then n i ||| 2 ^ u else n i
def mkn (n : Nat → Nat) (u w : Nat) : Nat → Nat := fun i => if i = u then n u ||| n w else mk1 n u w i
theorem makeOne_L {n : Nat → Nat} {near : Nat → Int32} (hn : ∀ k, k < 10 → near k = nI (n k)) {u w : Nat} (hu : u < 10) (hw : w < 10) {P0 : (Nat → Int32) → Prop} (h : ∀ row, (∀ i, i < 10 → row i = nI (mk1 n u w i)) → P0 row) : ∀ (d k : Nat) (row : Nat → Int32), k + d = 10 → (∀ i, i < k → row i = nI (mk1 n u w i)) → q_X0_makeOne_L3 (nI u) (nI w) near P0 (d + 1) (nI k) row := by
  intro d
  induction d with
  | zero =>
    intro k row hk e
    have : k = 10 := by omega
    subst this
    rw [q_X0_makeOne_L3]
    exact ⟨fun _ => h row e, fun q => absurd (by decide) q⟩
  | succ d ih =>
    intro k row hk e
    have xk := xin_nI (show k < 10 by omega) (by decide)
    have go : ∀ y, y = nI (mk1 n u w k) → q_X0_makeOne_L3 (nI u) (nI w) near P0 (d + 1) (nI (k + 1)) (upd row k y) := fun y hy => ih (k + 1) _ (by omega) (fun i hi => by
      by_cases q : i = k
      · subst q; rw [upI_s, hy]
      · rw [upI_n q]; exact e i (by omega))
    rw [q_X0_makeOne_L3]
    refine ⟨fun q => absurd q (ge10 (by omega)), fun _ => ⟨xk, ?_⟩⟩
    rw [nI_clamp (n := k) (by omega), hn k (by omega), nI_1]
    refine has_spec hw (fun q => ⟨fun _ => ⟨xk, xk, go _ ?_⟩, fun z => absurd rfl z⟩) (fun q => ⟨fun z => absurd z (by decide), fun _ => ⟨xk, xk, go _ ?_⟩⟩)
    · unfold mk1; rw [q, if_neg (by decide)]
    · unfold mk1; rw [if_pos q, pI_bit (by omega), pI_or]
theorem makeOne_spec {n : Nat → Nat} {near after : Nat → Int32} (hn : ∀ k, k < 10 → near k = nI (n k)) {u w : Nat} (hu : u < 10) (hw : w < 10) {P : (Nat → Int32) → Prop} (h : ∀ row, (∀ i, i < 10 → row i = nI (mkn n u w i)) → P row) : q_X0_makeOne (nI u) (nI w) near after P := by
  have xu := xin_nI hu (by decide)
  have xw := xin_nI hw (by decide)
  refine ⟨11, makeOne_L hn hu hw (fun row hrow => ⟨xu, xw, xu, ?_⟩) 10 0 after rfl (fun i hi => absurd hi (Nat.not_lt_zero i))⟩
  rw [nI_clamp (n := u) (by omega), nI_clamp (n := w) (by omega), hn u hu, hn w hw, pI_or]
  refine h _ (fun i hi => ?_)
  unfold mkn
  by_cases q : i = u
  · subst q; rw [upI_s, if_pos rfl]
  · rw [upI_n q, if_neg q]; exact hrow i hi
theorem jn_bit {n : Nat → Nat} {u w i j : Nat} (huw : u ≠ w) : (jn n u w i).testBit j = ((n i).testBit j || decide ((i = u ∧ j = w) ∨ (i = w ∧ j = u))) := by
  unfold jn
  by_cases a : i = u
  · subst a
    rw [if_pos rfl, orp_bit]
    congr 1
    exact decide_eq_decide.mpr (by omega)
  · rw [if_neg a]
    by_cases b : i = w
    · subst b
      rw [if_pos rfl, orp_bit]
      congr 1
      exact decide_eq_decide.mpr (by omega)
    · rw [if_neg b, decide_eq_false (by omega), Bool.or_false]
theorem mkn_bit {n : Nat → Nat} {u w i j : Nat} : (mkn n u w i).testBit j = if i = u then ((n u).testBit j || (n w).testBit j) else if j = u then ((n i).testBit u || (n i).testBit w) else (n i).testBit j := by
  unfold mkn
  by_cases a : i = u
  · rw [if_pos a, if_pos a, Nat.testBit_or]
  · rw [if_neg a, if_neg a]
    unfold mk1
    by_cases b : j = u
    · subst b
      rw [if_pos rfl]
      cases q : (n i).testBit w with
      | true => rw [if_pos rfl, orp_bit, decide_eq_true rfl]
      | false => rw [if_neg (by decide), Bool.or_false]
    · rw [if_neg b]
      split
      · rw [orp_bit, decide_eq_false (Ne.symm b), Bool.or_false]
      · rfl
theorem sy_jn {n : Nat → Nat} {S u w : Nat} (sy : Sy n S) (hu : u < 10) (hw : w < 10) (huw : u ≠ w) : Sy (jn n u w) S := by
  refine ⟨fun k hk => ?_, fun i j hi hj a b => ?_, fun i hi a => ?_⟩
  · unfold jn
    split
    · exact or_lt (n := 10) (sy.1 u hu) (pow_lt10 hw)
    · split
      · exact or_lt (n := 10) (sy.1 w hw) (pow_lt10 hu)
      · exact sy.1 k hk
  · rw [jn_bit huw, jn_bit huw, sy.2.1 i j hi hj a b]
    congr 1
    exact decide_eq_decide.mpr (by omega)
  · rw [jn_bit huw, sy.2.2 i hi a, decide_eq_false (by omega)]
    rfl
theorem sy_mkn {n : Nat → Nat} {S u w : Nat} (sy : Sy n S) (hu : u < 10) (hw : w < 10) (su : S.testBit u = true) (sw : S.testBit w = true) (huw : u ≠ w) (hno : (n u).testBit w = false) : Sy (mkn n u w) (mi S (2 ^ w)) := by
  have sub : ∀ i, (mi S (2 ^ w)).testBit i = true → S.testBit i = true := fun i a => by
    rw [mi_bit, Bool.and_eq_true] at a
    exact a.1
  refine ⟨fun k hk => ?_, fun i j hi hj a b => ?_, fun i hi a => ?_⟩
  · unfold mkn mk1
    split
    · exact or_lt (n := 10) (sy.1 u hu) (sy.1 w hw)
    · split
      · exact or_lt (n := 10) (sy.1 k hk) (pow_lt10 hu)
      · exact sy.1 k hk
  · have a' := sub i a
    have b' := sub j b
    rw [mkn_bit, mkn_bit]
    by_cases q : i = u
    · subst q
      rw [if_pos rfl]
      by_cases z : j = i
      · subst z; rw [if_pos rfl]
      · rw [if_neg z, if_pos rfl, sy.2.1 i j hi hj a' b', sy.2.1 w j hw hj sw b']
    · rw [if_neg q]
      by_cases z : j = u
      · subst z
        rw [if_pos rfl, if_pos rfl, sy.2.1 i j hi hj a' b', sy.2.1 i w hi hw a' sw]
      · rw [if_neg z, if_neg z, if_neg q]
        exact sy.2.1 i j hi hj a' b'
  · have a' := sub i a
    rw [mkn_bit]
    by_cases q : i = u
    · subst q
      rw [if_pos rfl, sy.2.2 i hi a', sy.2.1 w i hw hi sw a', hno]
      rfl
    · rw [if_neg q, if_neg q]
      exact sy.2.2 i hi a'
/-- how many pairs are no neighbours -/
def prE (n : Nat → Nat) (S i j : Nat) : Bool := S.testBit i && (S.testBit j && !(n i).testBit j)
def prs (n : Nat → Nat) (S : Nat) : Nat := sm (fun i => ct (prE n S i) i) 10
theorem sm_mono {f g : Nat → Nat} : ∀ {n : Nat}, (∀ k, k < n → f k ≤ g k) → sm f n ≤ sm g n
  | 0, _ => Nat.le_refl _
  | n + 1, h => Nat.add_le_add (sm_mono (fun k hk => h k (by omega))) (h n (by omega))
theorem sm_strict {f g : Nat → Nat} {i : Nat} : ∀ {n : Nat}, i < n → (∀ k, k < n → f k ≤ g k) → f i < g i → sm f n < sm g n
  | 0, h, _, _ => absurd h (Nat.not_lt_zero i)
  | n + 1, hi, h, hl => by
    rw [sm, sm]
    have hn := h n (by omega)
    rcases Nat.lt_succ_iff_lt_or_eq.mp hi with h2 | rfl
    · have := sm_strict h2 (fun k hk => h k (by omega)) hl
      omega
    · have := sm_mono (n := i) (fun k hk => h k (by omega))
      omega
theorem prs_45 (n : Nat → Nat) (S : Nat) : prs n S ≤ 45 := sm_mono (f := fun i => ct (prE n S i) i) (g := fun i => i) (n := 10) (fun k _ => ct_le _ _)
theorem prs_sub (n : Nat → Nat) (S v : Nat) : prs n (mi S (2 ^ v)) ≤ prs n S := sm_mono (fun k _ => ct_sub (fun j _ a => by
  unfold prE at a ⊢
  rw [Bool.and_eq_true, Bool.and_eq_true, mi_bit, mi_bit, Bool.and_eq_true, Bool.and_eq_true] at a
  rw [a.1.1, a.2.1.1, a.2.2]
  rfl))
theorem prs_jn {n : Nat → Nat} {S u w : Nat} (sy : Sy n S) (hu : u < 10) (hw : w < 10) (su : S.testBit u = true) (sw : S.testBit w = true) (huw : u ≠ w) (hno : (n u).testBit w = false) : prs (jn n u w) S < prs n S := by
  have le : ∀ k j, prE (jn n u w) S k j = true → prE n S k j = true := fun k j a => by
    unfold prE at a ⊢
    rw [jn_bit huw, Bool.and_eq_true, Bool.and_eq_true, Bool.not_eq_true', bor_f] at a
    rw [a.1, a.2.1, a.2.2.1]
    rfl
  have hno2 : (n w).testBit u = false := by rw [sy.2.1 w u hw hu sw su]; exact hno
  have key : ∀ a b, a < 10 → b < a → ((a = u ∧ b = w) ∨ (a = w ∧ b = u)) → (n a).testBit b = false → S.testBit a = true → S.testBit b = true → prs (jn n u w) S < prs n S := fun a b ha hb hab h1 h2 h3 => by
    refine sm_strict (i := a) ha (fun k _ => ct_sub (fun j _ => le k j)) (ct_lt hb (fun j _ => le a j) ?_ ?_)
    · unfold prE
      rw [jn_bit huw, decide_eq_true hab, Bool.or_true, Bool.not_true, Bool.and_false, Bool.and_false]
    · unfold prE
      rw [h1, h2, h3]
      rfl
  rcases Nat.lt_or_ge u w with q | q
  · exact key w u hw q (Or.inr ⟨rfl, rfl⟩) hno2 sw su
  · exact key u w hu (by omega) (Or.inl ⟨rfl, rfl⟩) hno su sw
theorem pc_less {S v : Nat} (hS : S < 1024) (hv : v < 10) (sv : S.testBit v = true) : pc S = pc (mi S (2 ^ v)) + 1 := by
  rw [pc_n (n := 10) hS (by decide), pc_n (n := 10) (mi_lt (n := 10) hS) (by decide)]
  refine ct_one hv (fun k _ c => ?_) sv ?_
  · rw [mp_bit, decide_eq_false (Ne.symm c), Bool.not_false, Bool.and_true]
  · rw [mp_bit, decide_eq_true rfl, Bool.not_true, Bool.and_false]
theorem dif_raw : ∀ t, t < 11 → ∀ d, d < 11 → (nI t - nI d).toInt64 = lN t - lN d := by decide +kernel
theorem upd2_s {f : Nat → Nat → Int32} {d : Nat} {r : Nat → Int32} : upd2 f d r d = r := if_pos rfl
theorem upd2_n {f : Nat → Nat → Int32} {d k : Nat} {r : Nat → Int32} (h : k ≠ d) : upd2 f d r k = f k := if_neg h
theorem xj2_all {α β : Type} {rest : α → β → Prop} {tree : (α → β → Prop) → Prop} (Q : α → β → Prop) (h : ∀ J : α → β → Prop, (∀ a b, Q a b → J a b) → tree J) (r : ∀ a b, Q a b → rest a b) : xj2 rest tree := h rest r
theorem stranger_ex {n : Nat → Nat} {S : Nat} (hS : S < 1024) (h0 : S ≠ 0) (sy : Sy n S) (hno : ∀ v, v < 10 → S.testBit v = true → ¬ Cq n (n v &&& S)) : ∃ v, v < 9 ∧ S.testBit v = true ∧ mi (mi S (n v)) (2 ^ v) ≠ 0 := by
  have h1 : ∃ u w, u < 10 ∧ w < 10 ∧ S.testBit u = true ∧ S.testBit w = true ∧ u ≠ w ∧ (n u).testBit w = false := by
    refine Classical.byContradiction fun hc => ?_
    obtain ⟨v, hv, sv⟩ := (set_ne0 (n := 10) hS).mp h0
    refine hno v hv sv (fun i j hi hj a b c => ?_)
    rw [Nat.testBit_and, Bool.and_eq_true] at a b
    cases q : (n i).testBit j with
    | true => rfl
    | false => exact absurd ⟨i, j, hi, hj, a.2, b.2, c, q⟩ hc
  obtain ⟨u, w, hu, hw, su, sw, c, q⟩ := h1
  rcases Nat.lt_or_ge u 9 with z | z
  · refine ⟨u, z, su, fun e => ?_⟩
    have := (str_iff hS).mp e w hw sw c
    rw [q] at this; cases this
  · refine ⟨w, by omega, sw, fun e => ?_⟩
    have := (str_iff hS).mp e u hu su (Ne.symm c)
    rw [sy.2.1 w u hw hu sw su, q] at this
    cases this
theorem cbp_L {t D f : Nat} (ht : t ≤ 10) (hD : D ≤ 9) (hrec : D + 1 ≤ 9 → ∀ (S : Nat) (J : Nat → Nat → Int32) (n : Nat → Nat), S < 1024 → Sy n S → (∀ i, i < 10 → J (D + 1) i = nI (n i)) → pc S + (D + 1) ≤ 10 → ∀ P : Int64 → (Nat → Nat → Int32) → Prop, (∀ J', (∀ j, j < D + 1 → J' j = J j) → P (lN (rr n t S)) J') → q_X0_countByPairs f (nI (D + 1)) (nI S) (nI t) J P) (J0 : Nat → Nat → Int32) {r : Int64} {P0 : Int64 → Int64 → (Nat → Nat → Int32) → Prop} (h : ∀ x y J', x + y = r → (∀ j, j < D → J' j = J0 j) → P0 x y J') : ∀ (d j S : Nat) (n : Nat → Nat) (x y : Int64) (J : Nat → Nat → Int32), j + d = 55 → S < 1024 → Sy n S → (∀ i, i < 10 → J D i = nI (n i)) → (∀ j, j < D → J j = J0 j) → pc S + D ≤ 10 → prs n S + pc S ≤ d → x + y * lN (rr n t S) = r → q_X0_countByPairs_L25 (q_X0_countByPairs f) (nI D) (nI t) P0 (d + 1) (nI S) x y (nI j) J := by
  intro d
  induction d with
  | zero =>
    intro j S n x y J hj hS sy hJ hF hp hm e
    have hS0 : S = 0 := pc_0 (by omega) (by omega)
    rw [hS0, rr_e, show lN 1 = (1 : Int64) from rfl, Int64.mul_one] at e
    rw [q_X0_countByPairs_L25]
    refine ⟨fun _ => h x y J e hF, fun q => absurd ?_ q⟩
    rw [show j = 55 by omega]
    decide
  | succ d ih =>
    intro j S n x y J hj hS sy hJ hF hp hm e
    rw [q_X0_countByPairs_L25]
    refine ⟨fun q => absurd q (nI_ge (b := 55) (by omega) (by decide)), fun _ => ?_⟩
    rw [pI_eq0 (by omega), nI_clamp (n := D) (by omega), nI_1, nI_1, nI_clamp (n := D + 1) (by omega)]
    refine ⟨fun hS0 => h x y J (by rw [hS0, rr_e, show lN 1 = (1 : Int64) from rfl, Int64.mul_one] at e; exact e) hF, fun hS0 => last_spec hJ hS (fun v hv sv hc => ⟨fun q => ?_, fun _ => ⟨xin_nI hv (by decide), ?_⟩⟩) (fun hno => ⟨fun _ => ?_, fun q => absurd rfl q⟩)⟩
    · exact absurd q (by rw [show (-1 : Int32) = cv 10 from rfl, ← cv_n hv, cv_inj (by omega) (by omega)]; omega)
    · rw [nI_clamp (n := v) (by omega), hJ v hv, pI_and, pI_bit (by omega)]
      have hnS : n v &&& S < 1024 := and_lt (n := 10) (sy.1 v hv)
      have hd := pc_10 hnS
      refine J6_spec hnS (xl_i (xl_i ?_))
      rw [pI_mi, dif_raw t (by omega) _ (by omega)]
      have sub : ∀ i, (mi S (2 ^ v)).testBit i = true → S.testBit i = true := fun i a => by
        rw [mi_bit, Bool.and_eq_true] at a
        exact a.1
      have hl := pc_less hS hv sv
      have hps := prs_sub n S v
      refine ih (j + 1) (mi S (2 ^ v)) n x _ J (by omega) (mi_lt (n := 10) hS) ⟨sy.1, fun i j hi hj a b => sy.2.1 i j hi hj (sub i a) (sub j b), fun i hi a => sy.2.2 i hi (sub i a)⟩ hJ hF (by omega) (by omega) ?_
      have k1 := congrArg lN (rr_last hv t S hS sv sy hc)
      rw [← lN_add, ← lN_mul, ← lN_mul] at k1
      rw [← e]
      generalize lN (rr n t S) = a1 at k1 ⊢
      generalize lN (rr n t (mi S (2 ^ v))) = a2 at k1 ⊢
      generalize lN (pc (n v &&& S)) = a3 at k1 ⊢
      generalize lN t = a4 at k1 ⊢
      grind
    · refine str_spec hJ hS (stranger_ex hS hS0 sy hno) (fun u hu su hst => ⟨xin_nI (show u < 10 by omega) (by decide), ?_⟩)
      rw [nI_clamp (n := u) (by omega), hJ u (by omega), pI_bit (by omega), pI_mi, pI_mi]
      refine firstOf_spec (mi_lt (n := 10) (mi_lt (n := 10) hS)) hst (fun w hw hwb => ?_)
      rw [mp_bit, mi_bit, Bool.and_eq_true, Bool.and_eq_true, Bool.not_eq_true', Bool.not_eq_true', decide_eq_false_iff_not] at hwb
      obtain ⟨⟨sw, hno1⟩, huw⟩ := hwb
      have hu10 : u < 10 := by omega
      have hno2 : (n w).testBit u = false := by rw [sy.2.1 w u hw hu10 sw su]; exact hno1
      have hl := pc_less hS hw sw
      have hl2 := pc_less (mi_lt (n := 10) hS) hu10 (show (mi S (2 ^ w)).testBit u = true by rw [mp_bit, su, decide_eq_false (Ne.symm huw)]; rfl)
      have hjn := prs_jn sy hu10 hw su sw huw hno1
      have xu := xin_nI hu10 (by decide)
      have xw := xin_nI hw (by decide)
      have math := rr_pair (n := n) (m := jn n u w) (k := mkn n u w) hu10 hw huw t S hS su sw hno1 hno2 (fun i j _ _ _ _ _ => jn_bit huw) (fun i j _ _ _ _ _ _ _ => mkn_bit)
      refine xj2_all (fun a b => a = x + y * lN (rr (mkn n u w) t (mi S (2 ^ w))) ∧ ∀ j, j < D + 1 → b j = J j) (fun K hK => ⟨fun q => absurd q (ge10 (by omega)), fun _ => ⟨xin_nI (by omega) (by decide), ?_⟩⟩) (fun a b hab => ⟨xu, xu, xw, xw, ?_⟩)
      · refine makeOne_spec hJ hu10 hw (fun row hrow => ?_)
        rw [pI_bit (by omega), pI_mi]
        refine hrec (by omega) (mi S (2 ^ w)) _ (mkn n u w) (mi_lt (n := 10) hS) (sy_mkn sy hu10 hw su sw huw hno1) (fun i hi => by rw [upd2_s]; exact hrow i hi) (by omega) _ (fun J' hJ' => xl_i (hK _ _ ⟨rfl, fun j hj => ?_⟩))
        rw [hJ' j hj, upd2_n (by omega)]
      · obtain ⟨ha, hb⟩ := hab
        have hbD : b D = J D := hb D (by omega)
        rw [nI_clamp (n := w) (by omega)]
        refine ih (j + 1) S (jn n u w) a y _ (by omega) hS (sy_jn sy hu10 hw huw) (fun i hi => ?_) (fun j hj => ?_) hp (by omega) ?_
        · rw [upd2_s, upd2_s, hbD, hJ u hu10, pI_bit (by omega), pI_or]
          unfold jn
          by_cases q : i = w
          · subst q
            rw [upI_s, upI_n (Ne.symm huw), hJ i hi, pI_or, if_neg (Ne.symm huw), if_pos rfl]
          · rw [upI_n q]
            by_cases z : i = u
            · subst z
              rw [upI_s, if_pos rfl]
            · rw [upI_n z, hJ i hi, if_neg z, if_neg q]
        · rw [upd2_n (by omega), upd2_n (by omega), hb j (by omega)]
          exact hF j hj
        · rw [ha, ← e, math, ← lN_add]
          grind
theorem cbp {t : Nat} (ht : t ≤ 10) : ∀ (f D : Nat), D + f = 12 → D ≤ 9 → ∀ (S : Nat) (J : Nat → Nat → Int32) (n : Nat → Nat), S < 1024 → Sy n S → (∀ i, i < 10 → J D i = nI (n i)) → pc S + D ≤ 10 → ∀ P : Int64 → (Nat → Nat → Int32) → Prop, (∀ J', (∀ j, j < D → J' j = J j) → P (lN (rr n t S)) J') → q_X0_countByPairs f (nI D) (nI S) (nI t) J P := by
  intro f
  induction f with
  | zero => intro D h1 h2; omega
  | succ f ih =>
    intro D hf hD S J n hS sy hJ hp P hP
    rw [q_X0_countByPairs]
    refine ⟨fun _ => ⟨xin_nI (by omega) (by decide), 56, ?_⟩, fun q => absurd (nI_lt (b := 10) (by omega) (by decide)) q⟩
    have h45 := prs_45 n S
    have h10 := pc_10 hS
    refine cbp_L ht hD (fun hD1 S2 J2 n2 a1 a2 a3 a4 P2 a5 => ih (D + 1) (by omega) hD1 S2 J2 n2 a1 a2 a3 a4 P2 a5) J (r := lN (rr n t S)) (fun x y J' hxy hJ' => ?_) 55 0 S n 0 1 J rfl hS sy hJ (fun _ _ => rfl) hp (by omega) ?_
    · rw [hxy]; exact hP J' hJ'
    · rw [Int64.one_mul, Int64.zero_add]
