/-! the pure side: the fewest tints -/
/-- a tinting -/
def Col (n : Nat → Nat) (t S : Nat) (col : Nat → Nat) : Prop := (∀ i, i < 10 → S.testBit i = true → 1 ≤ col i ∧ col i ≤ t) ∧ (∀ i j, i < 10 → j < 10 → S.testBit i = true → S.testBit j = true → (n i).testBit j = true → col i ≠ col j)
theorem rr_col {n : Nat → Nat} (g : Gr n) : ∀ (t S : Nat), S < 1024 → (rr n t S ≠ 0 ↔ ∃ col, Col n t S col) := by
  intro t
  induction t with
  | zero =>
    intro S hS
    constructor
    · intro h
      by_cases e : S = 0
      · subst e
        exact ⟨fun _ => 0, ⟨fun i _ a => (by rw [Nat.zero_testBit] at a; cases a), fun i _ _ _ a => (by rw [Nat.zero_testBit] at a; cases a)⟩⟩
      · exact absurd (rr_0 e) h
    · rintro ⟨col, h, _⟩ h0
      rw [rr] at h0
      by_cases e : S = 0
      · rw [if_pos e] at h0; cases h0
      · obtain ⟨i, hi, a⟩ := (set_ne0 (n := 10) hS).mp e
        have := h i hi a
        omega
  | succ t ih =>
    intro S hS
    rw [rr, sb_ne0]
    constructor
    · rintro ⟨A, hA, h⟩
      by_cases q : idb n A = true
      · rw [if_pos q] at h
        obtain ⟨col, h1, h2⟩ := (ih (mi S A) (mi_lt (n := 10) hS)).mp h
        have q' := (idb_iff hA.1).mp q
        refine ⟨fun i => if A.testBit i = true then t + 1 else col i, fun i hi a => ?_, fun i j hi hj a b c => ?_⟩
        · show 1 ≤ (if A.testBit i = true then t + 1 else col i) ∧ (if A.testBit i = true then t + 1 else col i) ≤ t + 1
          by_cases z : A.testBit i = true
          · rw [if_pos z]; omega
          · rw [if_neg z]
            have := h1 i hi (by rw [mi_bit, a, bfalse z]; rfl)
            omega
        · show (if A.testBit i = true then t + 1 else col i) ≠ (if A.testBit j = true then t + 1 else col j)
          have hij : i ≠ j := fun e => by rw [e, g.2.2 j hj] at c; cases c
          by_cases z : A.testBit i = true
          · by_cases y : A.testBit j = true
            · rw [q' i j hi hj z y hij] at c; cases c
            · rw [if_pos z, if_neg y]
              have := h1 j hj (by rw [mi_bit, b, bfalse y]; rfl)
              omega
          · by_cases y : A.testBit j = true
            · rw [if_neg z, if_pos y]
              have := h1 i hi (by rw [mi_bit, a, bfalse z]; rfl)
              omega
            · rw [if_neg z, if_neg y]
              exact h2 i j hi hj (by rw [mi_bit, a, bfalse z]; rfl) (by rw [mi_bit, b, bfalse y]; rfl) c
      · rw [if_neg q] at h
        exact absurd rfl h
    · rintro ⟨col, h1, h2⟩
      have hA : so (fun i => S.testBit i && decide (col i = t + 1)) 10 < 1024 := so_lt _ 10
      have bA : ∀ i, i < 10 → (so (fun i => S.testBit i && decide (col i = t + 1)) 10).testBit i = (S.testBit i && decide (col i = t + 1)) := fun i hi => by rw [so_bit, decide_eq_true hi, Bool.true_and]
      generalize so (fun i => S.testBit i && decide (col i = t + 1)) 10 = A at hA bA
      have sA : ∀ i, A.testBit i = true → S.testBit i = true ∧ col i = t + 1 := fun i a => by
        have hi : i < 10 := bit_lt (n := 10) hA a
        rw [bA i hi, Bool.and_eq_true, decide_eq_true_iff] at a
        exact a
      refine ⟨A, ⟨hA, fun i a => (sA i a).1⟩, ?_⟩
      have q : idb n A = true := (idb_iff hA).mpr fun i j hi hj a b c => bfalse fun d => by
        have k1 := sA i a
        have k2 := sA j b
        exact h2 i j hi hj k1.1 k2.1 d (by omega)
      show (if idb n A = true then rr n t (mi S A) else 0) ≠ 0
      rw [if_pos q]
      refine (ih (mi S A) (mi_lt (n := 10) hS)).mpr ⟨col, fun i hi a => ?_, fun i j hi hj a b c => ?_⟩
      · rw [mi_bit, Bool.and_eq_true, Bool.not_eq_true', bA i hi] at a
        have k := h1 i hi a.1
        have : col i ≠ t + 1 := fun e => by
          have k2 := a.2
          rw [a.1, decide_eq_true e] at k2
          cases k2
        omega
      · rw [mi_bit, Bool.and_eq_true] at a b
        exact h2 i j hi hj a.1 b.1 c
theorem idb_less (n : Nat → Nat) (v A : Nat) (h : idb n (A ||| 2 ^ v) = true) : idb n A = true := by
  unfold idb at h ⊢
  rw [al_iff] at h ⊢
  intro k hk
  have := h k hk
  unfold aq at this ⊢
  cases a : A.testBit k with
  | false => rfl
  | true =>
    rw [orp_bit, a, Bool.true_or, Bool.not_true, Bool.false_or, decide_eq_true_iff, if_neg (by decide)] at this
    rw [Bool.not_true, Bool.false_or, decide_eq_true_iff, if_neg (by decide)]
    refine Nat.eq_of_testBit_eq fun i => ?_
    have e := congrArg (fun x : Nat => x.testBit i) this
    simp only [Nat.testBit_and, mp_bit, orp_bit, Nat.zero_testBit] at e
    rw [Nat.testBit_and, mp_bit, Nat.zero_testBit]
    cases b : A.testBit i with
    | false => rw [Bool.false_and, Bool.and_false]
    | true =>
      rw [b, Bool.true_or] at e
      exact e
theorem rr_bound {n : Nat → Nat} {t : Nat} (ht : t ≤ 10) : ∀ (k S : Nat), k ≤ 10 → S < 2 ^ k → rr n t S ≤ 10 ^ k := by
  intro k
  induction k with
  | zero =>
    intro S _ hS
    have : S = 0 := by
      have : (2 : Nat) ^ 0 = 1 := rfl
      omega
    subst this
    rw [rr_e]
    decide
  | succ k ih =>
    intro S hk hS
    have hp : 10 ^ (k + 1) = 10 * 10 ^ k := by rw [Nat.pow_succ, Nat.mul_comm]
    by_cases q : S.testBit k = true
    · have h1 := rr_less n (v := k) (by omega) (idb_less n k) t S q
      have hl : mi S (2 ^ k) < 2 ^ k := by
        apply Nat.lt_pow_two_of_testBit
        intro i hi
        rw [mp_bit]
        by_cases w : k = i
        · rw [decide_eq_true w, Bool.not_true, Bool.and_false]
        · rw [Nat.testBit_lt_two_pow (Nat.lt_of_lt_of_le hS (Nat.pow_le_pow_right (by decide) (by omega)))]
          rfl
      have h2 := ih (mi S (2 ^ k)) (by omega) hl
      rw [hp]
      exact Nat.le_trans h1 (Nat.mul_le_mul ht h2)
    · have hl : S < 2 ^ k := by
        apply Nat.lt_pow_two_of_testBit
        intro i hi
        by_cases w : k = i
        · subst w; exact bfalse q
        · exact Nat.testBit_lt_two_pow (Nat.lt_of_lt_of_le hS (Nat.pow_le_pow_right (by decide) (by omega)))
      have h2 := ih S (by omega) hl
      rw [hp]
      omega
theorem rr_64 {n : Nat → Nat} {t S : Nat} (ht : t ≤ 10) (hS : S < 1024) : rr n t S < 2 ^ 64 := by
  have := rr_bound (n := n) ht 10 S (Nat.le_refl _) hS
  omega
/-- the fewest -/
theorem few_ex {n : Nat → Nat} (g : Gr n) {S : Nat} (hS : S < 1024) : ∃ f, f ≤ 10 ∧ rr n f S ≠ 0 ∧ ∀ k, k < f → rr n k S = 0 := by
  have h10 : rr n 10 S ≠ 0 := (rr_col g 10 S hS).mpr ⟨fun i => i + 1, fun i hi _ => by show 1 ≤ i + 1 ∧ i + 1 ≤ 10; omega, fun i j _ hj _ _ c e => by
    have e2 : i = j := by
      have e3 : i + 1 = j + 1 := e
      omega
    rw [e2, g.2.2 j hj] at c
    cases c⟩
  have key : ∀ m, (∀ k, k < m → rr n k S = 0) ∨ ∃ f, f < m ∧ rr n f S ≠ 0 ∧ ∀ k, k < f → rr n k S = 0 := by
    intro m
    induction m with
    | zero => exact Or.inl fun k hk => absurd hk (Nat.not_lt_zero k)
    | succ m ih =>
      rcases ih with h | ⟨f, h1, h2, h3⟩
      · by_cases q : rr n m S = 0
        · refine Or.inl fun k hk => ?_
          rcases Nat.lt_succ_iff_lt_or_eq.mp hk with h4 | rfl
          · exact h k h4
          · exact q
        · exact Or.inr ⟨m, by omega, q, h⟩
      · exact Or.inr ⟨f, by omega, h2, h3⟩
  rcases key 11 with h | ⟨f, h1, h2, h3⟩
  · exact absurd (h 10 (by decide)) h10
  · exact ⟨f, by omega, h2, h3⟩
/-! the class's search -/
def Ext (n : Nat → Nat) (t S k : Nat) (a col : Nat → Nat) : Prop := Col n t S col ∧ ∀ i, i < k → S.testBit i = true → col i = a i
def Lx (S : Nat) (b col : Nat → Nat) : Prop := (∀ i, i < 10 → S.testBit i = true → col i = b i) ∨ ∃ m, m < 10 ∧ S.testBit m = true ∧ (∀ i, i < m → S.testBit i = true → col i = b i) ∧ b m < col m
def Best (n : Nat → Nat) (t S k : Nat) (a b : Nat → Nat) : Prop := Ext n t S k a b ∧ ∀ col, Ext n t S k a col → Lx S b col
/-- tinted so far -/
def PC (n : Nat → Nat) (t S k : Nat) (a : Nat → Nat) : Prop := (∀ i, i < k → S.testBit i = true → 1 ≤ a i ∧ a i ≤ t) ∧ (∀ i j, i < k → j < k → S.testBit i = true → S.testBit j = true → (n i).testBit j = true → a i ≠ a j)
theorem upN_s {f : Nat → Nat} {k v : Nat} : (fun i => if i = k then v else f i) k = v := if_pos rfl
theorem ext_step {n : Nat → Nat} {t S k v : Nat} {a col : Nat → Nat} (h : Ext n t S k a col) (e : S.testBit k = true → col k = v) : Ext n t S (k + 1) (fun i => if i = k then v else a i) col := by
  refine ⟨h.1, fun i hi q => ?_⟩
  show col i = if i = k then v else a i
  by_cases z : i = k
  · subst z; rw [if_pos rfl]; exact e q
  · rw [if_neg z]; exact h.2 i (by omega) q
theorem ext_back {n : Nat → Nat} {t S k v : Nat} {a col : Nat → Nat} (h : Ext n t S (k + 1) (fun i => if i = k then v else a i) col) : Ext n t S k a col ∧ (S.testBit k = true → col k = v) := by
  refine ⟨⟨h.1, fun i hi q => ?_⟩, fun q => ?_⟩
  · have : col i = if i = k then v else a i := h.2 i (by omega) q
    rw [if_neg (by omega)] at this
    exact this
  · have : col k = if k = k then v else a k := h.2 k (by omega) q
    rw [if_pos rfl] at this
    exact this
theorem pc_step {n : Nat → Nat} (g : Gr n) {t S k v : Nat} (hk : k < 10) {a : Nat → Nat} (h : PC n t S k a) (hv : 1 ≤ v) (hvt : v ≤ t) (hf : ∀ i, i < k → S.testBit i = true → (n k).testBit i = true → a i ≠ v) : PC n t S (k + 1) (fun i => if i = k then v else a i) := by
  refine ⟨fun i hi q => ?_, fun i j hi hj p q c => ?_⟩
  · show 1 ≤ (if i = k then v else a i) ∧ (if i = k then v else a i) ≤ t
    by_cases z : i = k
    · rw [if_pos z]; exact ⟨hv, hvt⟩
    · rw [if_neg z]; exact h.1 i (by omega) q
  · show (if i = k then v else a i) ≠ (if j = k then v else a j)
    by_cases z : i = k
    · by_cases y : j = k
      · rw [z, y, g.2.2 k hk] at c; cases c
      · rw [if_pos z, if_neg y]
        rw [z] at c
        exact fun e => hf j (by omega) q c e.symm
    · by_cases y : j = k
      · rw [if_neg z, if_pos y]
        rw [y, g.2.1 i k (by omega) hk] at c
        exact hf i (by omega) p c
      · rw [if_neg z, if_neg y]
        exact h.2 i j (by omega) (by omega) p q c
/-- two tints change places -/
def sw (x y v : Nat) : Nat := if v = x then y else if v = y then x else v
theorem sw_inj {x y a b : Nat} (h : sw x y a = sw x y b) : a = b := by
  unfold sw at h
  repeat' split at h
  all_goals omega
theorem no_more {n : Nat → Nat} {t S k u : Nat} (hk : k < 10) (sk : S.testBit k = true) {a : Nat → Nat} (hu : ∀ i, i < k → S.testBit i = true → a i ≤ u) (hno : ∀ col, Ext n t S k a col → u + 2 ≤ col k) : ∀ col, ¬ Ext n t S k a col := fun col h => by
  have h1 := hno col h
  have h2 := h.1.1 k hk sk
  have := hno (fun i => sw (u + 1) (col k) (col i)) ⟨⟨fun i hi q => ?_, fun i j hi hj p q c e => h.1.2 i j hi hj p q c (sw_inj e)⟩, fun i hi q => ?_⟩
  · have e : sw (u + 1) (col k) (col k) = u + 1 := by
      unfold sw
      rw [if_neg (by omega), if_pos rfl]
    have this2 : u + 2 ≤ sw (u + 1) (col k) (col k) := this
    omega
  · have h3 := h.1.1 i hi q
    show 1 ≤ sw (u + 1) (col k) (col i) ∧ sw (u + 1) (col k) (col i) ≤ t
    unfold sw
    repeat' split
    all_goals omega
  · have h3 := h.2 i hi q
    have h4 := hu i hi q
    show sw (u + 1) (col k) (col i) = a i
    unfold sw
    rw [if_neg (by omega), if_neg (by omega)]
    exact h3
theorem free_L {n : Nat → Nat} {S k v : Nat} (hk : k < 10) (hnS : ∀ i, i < 10 → (n k).testBit i = true → S.testBit i = true) {a : Nat → Nat} (hat : ∀ i, i < k → S.testBit i = true → a i ≤ 10) (hv : v ≤ 10) {trial : Nat → Int32} (htr : ∀ i, i < k → S.testBit i = true → trial i = nI (a i)) {P0 P1 : Prop} (h1 : (∀ i, i < k → S.testBit i = true → (n k).testBit i = true → a i ≠ v) → P0) (h0 : (∃ i, i < k ∧ S.testBit i = true ∧ (n k).testBit i = true ∧ a i = v) → P1) : ∀ (d j : Nat), j + d = k → (∀ i, i < j → S.testBit i = true → (n k).testBit i = true → a i ≠ v) → q_X0_isFreeIn_L3 (nI k) (nI (n k)) (nI v) trial P0 P1 (d + 1) (nI j) := by
  intro d
  induction d with
  | zero =>
    intro j hj e
    have : j = k := by omega
    subst this
    rw [q_X0_isFreeIn_L3]
    exact ⟨fun _ => h1 e, fun q => absurd (nI_le (Nat.le_refl _) (by omega)) q⟩
  | succ d ih =>
    intro j hj e
    have nx : (S.testBit j = true → (n k).testBit j = true → a j ≠ v) → q_X0_isFreeIn_L3 (nI k) (nI (n k)) (nI v) trial P0 P1 (d + 1) (nI (j + 1)) := fun q => ih (j + 1) (by omega) (fun i hi => by
      rcases Nat.lt_succ_iff_lt_or_eq.mp hi with h | rfl
      · exact e i h
      · exact q)
    rw [q_X0_isFreeIn_L3]
    refine ⟨fun q => absurd q (nI_ge (by omega) (by omega)), fun _ => has_spec (by omega) (fun q => ⟨fun _ => ?_, fun z => absurd rfl z⟩) (fun q => ⟨fun z => absurd z (by decide), fun _ => ⟨xin_nI (by omega) (by decide), ?_⟩⟩)⟩
    · rw [nI_1]
      exact nx (fun _ b => by rw [q] at b; cases b)
    · have sj := hnS j (by omega) q
      have haj := hat j (by omega) sj
      rw [nI_clamp (n := j) (by omega), htr j (by omega) sj, nI_eq (by omega) (by omega), nI_1]
      exact ⟨fun z => nx (fun _ _ => z), fun z => h0 ⟨j, by omega, sj, q, z⟩⟩
theorem best_up {n : Nat → Nat} {t S k v : Nat} {a b : Nat → Nat} (hk : k < 10) (sk : S.testBit k = true) (hb : Best n t S (k + 1) (fun i => if i = k then v else a i) b) (hno : ∀ col, Ext n t S k a col → v ≤ col k) : Best n t S k a b := by
  obtain ⟨h1, h2⟩ := hb
  obtain ⟨h3, h4⟩ := ext_back h1
  have bk := h4 sk
  refine ⟨h3, fun col hc => ?_⟩
  have := hno col hc
  by_cases e : col k = v
  · exact h2 col (ext_step hc (fun _ => e))
  · exact Or.inr ⟨k, hk, sk, fun i hi q => by rw [hc.2 i hi q, h3.2 i hi q], by omega⟩
theorem ext_skip {n : Nat → Nat} {t S k : Nat} {a col : Nat → Nat} (sk : S.testBit k = false) : Ext n t S k a col ↔ Ext n t S (k + 1) a col := by
  refine ⟨fun h => ⟨h.1, fun i hi q => ?_⟩, fun h => ⟨h.1, fun i hi q => h.2 i (by omega) q⟩⟩
  rcases Nat.lt_succ_iff_lt_or_eq.mp hi with z | rfl
  · exact h.2 i z q
  · rw [sk] at q; cases q
theorem try_spec {n : Nat → Nat} (g : Gr n) {near : Nat → Int32} (hn : ∀ k, k < 10 → near k = nI (n k)) {S t : Nat} (hS : S < 1024) (hnS : ∀ k i, k < 10 → i < 10 → (n k).testBit i = true → S.testBit i = true) (ht : t ≤ 10) : ∀ (f k : Nat), k + f = 12 → k ≤ 10 → ∀ (u : Nat) (a : Nat → Nat) (trial : Nat → Int32) (P : Int32 → (Nat → Int32) → Prop), u ≤ 10 → (∀ i, i < k → S.testBit i = true → a i ≤ u) → PC n t S k a → (∀ i, i < k → S.testBit i = true → trial i = nI (a i)) → (∀ b trial', Best n t S k a b → (∀ i, i < 10 → S.testBit i = true → trial' i = nI (b i)) → P 1 trial') → ((∀ col, ¬ Ext n t S k a col) → ∀ trial', (∀ i, i < k → S.testBit i = true → trial' i = nI (a i)) → P 0 trial') → q_X0_tryFrom f (nI k) (nI S) (nI u) (nI t) near trial P := by
  intro f
  induction f with
  | zero => intro k h1 h2; omega
  | succ f ih =>
    intro k hkf hk u a trial P hu hau hpc htr hs hf
    rw [q_X0_tryFrom]
    rcases Nat.lt_or_ge k 10 with hk2 | hk2
    · refine ⟨fun _ => has_spec hk2 (fun sk => ⟨fun z => absurd rfl z, fun _ => ?_⟩) (fun sk => ⟨fun _ => ?_, fun z => absurd z (by decide)⟩), fun q => absurd (nI_lt (b := 10) hk2 (by decide)) q⟩
      · rw [nI_1]
        refine ih (k + 1) (by omega) (by omega) u a trial _ hu (fun i hi q => ?_) ⟨fun i hi q => ?_, fun i j hi hj p q c => ?_⟩ (fun i hi q => ?_) (fun b trial' hb hb2 => ⟨xb1, hs b trial' ⟨(ext_skip sk).mpr hb.1, fun col hc => hb.2 col ((ext_skip sk).mp hc)⟩ hb2⟩) (fun hno trial' h' => ⟨xb0, hf (fun col hc => hno col ((ext_skip sk).mp hc)) trial' (fun i hi q => h' i (by omega) q)⟩)
        all_goals
          have key : ∀ i, i < k + 1 → S.testBit i = true → i < k := fun i hi q => by
            rcases Nat.lt_succ_iff_lt_or_eq.mp hi with z | rfl
            · exact z
            · rw [sk] at q; cases q
        · exact hau i (key i hi q) q
        · exact hpc.1 i (key i hi q) q
        · exact hpc.2 i j (key i hi p) (key j hj q) p q c
        · exact htr i (key i hi q) q
      · have L : ∀ (e v : Nat) (tr : Nat → Int32), v + e = 11 → 1 ≤ v → (∀ i, i < k → S.testBit i = true → tr i = nI (a i)) → (∀ col, Ext n t S k a col → v ≤ col k) → q_X0_tryFrom_L33 (q_X0_tryFrom f) (nI k) (nI S) (nI u) (nI t) near (fun (v7 : Nat → Int32) => (xbool (0 : Int32) ∧ P (0 : Int32) v7)) (fun (v8 : Nat → Int32) => (xbool (1 : Int32) ∧ P (1 : Int32) v8)) (e + 1) (nI v) tr := by
          intro e
          induction e with
          | zero =>
            intro v tr hv h1 htr2 hno
            rw [q_X0_tryFrom_L33]
            refine ⟨fun _ => ⟨xb0, hf (fun col hc => ?_) tr htr2⟩, fun q => absurd (nI_lt (by omega) (by omega)) q⟩
            have := hno col hc
            have := hc.1.1 k hk2 sk
            omega
          | succ e ihe =>
            intro v tr hv h1 htr2 hno
            rw [q_X0_tryFrom_L33]
            have end1 : t < v → (xbool (0 : Int32) ∧ P (0 : Int32) tr) := fun q => ⟨xb0, hf (fun col hc => by
              have := hno col hc
              have := hc.1.1 k hk2 sk
              omega) tr htr2⟩
            refine ⟨fun q => end1 ((nI_ltI (by omega) (by omega)).mp q), fun q => ?_⟩
            have hvt : v ≤ t := by
              rcases Nat.lt_or_ge t v with z | z
              · exact absurd (nI_lt z (by omega)) q
              · exact z
            rw [nI_1, nI_1, nI_ltI (by omega) (by omega)]
            refine ⟨fun q2 => ⟨xb0, hf (no_more hk2 sk hau (fun col hc => ?_)) tr htr2⟩, fun q2 => ⟨xin_nI hk2 (by decide), ?_⟩⟩
            · have := hno col hc
              omega
            · rw [nI_clamp (n := k) (by omega), hn k hk2]
              have nx : ∀ tr', (∀ i, i < k → S.testBit i = true → tr' i = nI (a i)) → (∀ col, Ext n t S k a col → col k ≠ v) → q_X0_tryFrom_L33 (q_X0_tryFrom f) (nI k) (nI S) (nI u) (nI t) near (fun (v7 : Nat → Int32) => (xbool (0 : Int32) ∧ P (0 : Int32) v7)) (fun (v8 : Nat → Int32) => (xbool (1 : Int32) ∧ P (1 : Int32) v8)) (e + 1) (nI (v + 1)) tr' := fun tr' h' hne => ihe (v + 1) tr' (by omega) (by omega) h' (fun col hc => by
                have := hno col hc
                have := hne col hc
                omega)
              refine ⟨k + 1, free_L hk2 (fun i hi => hnS k i hk2 hi) (fun i hi q => by have := hau i hi q; omega) (by omega) htr2 (fun hfr => ⟨xb1, fun z => absurd z (by decide), fun _ => ⟨xin_nI hk2 (by decide), ?_⟩⟩) (fun hex => ⟨xb0, fun _ => nx tr htr2 (fun col hc z => ?_), fun z => absurd rfl z⟩) k 0 (by omega) (fun i hi => absurd hi (Nat.not_lt_zero i))⟩
              · rw [xmax_nI (by omega) (by omega), nI_1]
                refine ih (k + 1) (by omega) (by omega) (max u v) (fun i => if i = k then v else a i) _ _ (by omega) (fun i hi q => ?_) (pc_step g hk2 hpc h1 hvt hfr) (fun i hi q => ?_) (fun b trial' hb hb2 => ⟨fun z => absurd z (by decide), fun _ => ⟨xb1, hs b trial' (best_up hk2 sk hb hno) hb2⟩⟩) (fun hnone trial' h' => ⟨fun _ => nx trial' (fun i hi q => ?_) (fun col hc z => hnone col (ext_step hc (fun _ => z))), fun z => absurd rfl z⟩)
                · show (if i = k then v else a i) ≤ max u v
                  by_cases z : i = k
                  · rw [if_pos z]; omega
                  · rw [if_neg z]
                    have := hau i (by omega) q
                    omega
                · show upd tr k (nI v) i = nI (if i = k then v else a i)
                  by_cases z : i = k
                  · subst z; rw [upI_s, if_pos rfl]
                  · rw [upI_n z, if_neg z]; exact htr2 i (by omega) q
                · have : trial' i = nI (if i = k then v else a i) := h' i (by omega) q
                  rw [if_neg (by omega)] at this
                  exact this
              · obtain ⟨i, hi, si, ni, ai⟩ := hex
                have e1 := hc.2 i hi si
                exact hc.1.2 k i hk2 (by omega) sk si ni (by omega)
        exact ⟨11, L 10 1 trial rfl (Nat.le_refl _) htr (fun col hc => (hc.1.1 k hk2 sk).1)⟩
    · have : k = 10 := by omega
      subst this
      refine ⟨fun q => absurd q (by decide), fun _ => ⟨xb1, hs a trial ⟨⟨⟨fun i hi q => hpc.1 i hi q, fun i j hi hj p q c => hpc.2 i j hi hj p q c⟩, fun i hi q => rfl⟩, fun col hc => Or.inl (fun i hi q => hc.2 i hi q)⟩ htr⟩⟩
theorem tryF_L {n : Nat → Nat} (g : Gr n) {near : Nat → Int32} (hn : ∀ k, k < 10 → near k = nI (n k)) {S f : Nat} (hS : S < 1024) (hnS : ∀ k i, k < 10 → i < 10 → (n k).testBit i = true → S.testBit i = true) (hf : f ≤ 10) (h1 : rr n f S ≠ 0) (h0 : ∀ k, k < f → rr n k S = 0) {P0 : (Nat → Int32) → Prop} {P1 : Int32 → (Nat → Int32) → Prop} (h : ∀ b trial', Best n f S 0 (fun _ => 0) b → (∀ i, i < 10 → S.testBit i = true → trial' i = nI (b i)) → P1 (nI f) trial') : ∀ (d k : Nat) (trial : Nat → Int32), k + d = f → q_X0_tryFewest_L2 (nI S) near P0 P1 (d + 1) (nI k) trial := by
  have ex : ∀ k, Ext n k S 0 (fun _ => 0) = fun col => Ext n k S 0 (fun _ => 0) col := fun _ => rfl
  intro d
  induction d with
  | zero =>
    intro k trial hk
    have : k = f := by omega
    subst this
    rw [q_X0_tryFewest_L2]
    refine ⟨fun q => absurd q (nI_nlt (a := 10) hf (by decide)), fun _ => ?_⟩
    refine try_spec g hn hS hnS hf 12 0 rfl (by decide) 0 (fun _ => 0) trial _ (by decide) (fun i hi => absurd hi (Nat.not_lt_zero i)) ⟨fun i hi => absurd hi (Nat.not_lt_zero i), fun i j hi => absurd hi (Nat.not_lt_zero i)⟩ (fun i hi => absurd hi (Nat.not_lt_zero i)) (fun b trial' hb hb2 => ⟨fun z => absurd z (by decide), fun _ => h b trial' hb hb2⟩) (fun hno trial' _ => ?_)
    obtain ⟨col, hc⟩ := (rr_col g k S hS).mp h1
    exact absurd ⟨hc, fun i hi => absurd hi (Nat.not_lt_zero i)⟩ (hno col)
  | succ d ih =>
    intro k trial hk
    rw [q_X0_tryFewest_L2]
    refine ⟨fun q => absurd q (nI_nlt (a := 10) (by omega) (by decide)), fun _ => ?_⟩
    refine try_spec g hn hS hnS (show k ≤ 10 by omega) 12 0 rfl (by decide) 0 (fun _ => 0) trial _ (by decide) (fun i hi => absurd hi (Nat.not_lt_zero i)) ⟨fun i hi => absurd hi (Nat.not_lt_zero i), fun i j hi => absurd hi (Nat.not_lt_zero i)⟩ (fun i hi => absurd hi (Nat.not_lt_zero i)) (fun b trial' hb hb2 => ?_) (fun hno trial' _ => ⟨fun _ => ?_, fun z => absurd rfl z⟩)
    · exact absurd (h0 k (by omega)) ((rr_col g k S hS).mpr ⟨b, hb.1.1⟩)
    · rw [nI_1]
      exact ih (k + 1) trial' (by omega)
theorem tryFewest_spec {n : Nat → Nat} (g : Gr n) {near : Nat → Int32} (hn : ∀ k, k < 10 → near k = nI (n k)) {S f : Nat} (hS : S < 1024) (hnS : ∀ k i, k < 10 → i < 10 → (n k).testBit i = true → S.testBit i = true) (hf : f ≤ 10) (h1 : rr n f S ≠ 0) (h0 : ∀ k, k < f → rr n k S = 0) {trial : Nat → Int32} {P : Int32 → (Nat → Int32) → Prop} (h : ∀ b trial', Best n f S 0 (fun _ => 0) b → (∀ i, i < 10 → S.testBit i = true → trial' i = nI (b i)) → P (nI f) trial') : q_X0_tryFewest (nI S) near trial P :=
  ⟨f + 1, tryF_L g hn hS hnS hf h1 h0 h f 0 trial (by omega)⟩
