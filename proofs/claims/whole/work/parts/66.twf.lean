/-! the pure side: tintWithFewest -/
theorem twf_L7 {S : Nat} {b t : Nat → Nat} {trial : Nat → Int32} (htr : ∀ i, i < 10 → S.testBit i = true → trial i = nI (b i)) {P0 : (Nat → Int32) → Prop} (h : ∀ w, (∀ i, i < 10 → w i = nI (if S.testBit i = true then b i else t i)) → P0 w) : ∀ (d k : Nat) (w : Nat → Int32), k + d = 10 → (∀ i, i < 10 → w i = nI (if i < k ∧ S.testBit i = true then b i else t i)) → q_X0_tintWithFewest_L7 (nI S) trial P0 (d + 1) (nI k) w := by
  intro d
  induction d with
  | zero =>
    intro k w hk e
    have : k = 10 := by omega
    subst this
    rw [q_X0_tintWithFewest_L7]
    refine ⟨fun _ => h w (fun i hi => ?_), fun q => absurd (by decide) q⟩
    rw [e i hi]
    by_cases q : S.testBit i = true
    · rw [if_pos ⟨hi, q⟩, if_pos q]
    · rw [if_neg (fun z => q z.2), if_neg q]
  | succ d ih =>
    intro k w hk e
    have xk := xin_nI (show k < 10 by omega) (by decide)
    rw [q_X0_tintWithFewest_L7]
    refine ⟨fun q => absurd q (ge10 (by omega)), fun _ => has_spec (by omega) (fun q => ⟨fun _ => ?_, fun z => absurd rfl z⟩) (fun q => ⟨fun z => absurd z (by decide), fun _ => ⟨xk, xk, ?_⟩⟩)⟩
    · rw [nI_1]
      refine ih (k + 1) w (by omega) (fun i hi => ?_)
      rw [e i hi]
      by_cases z : i < k ∧ S.testBit i = true
      · rw [if_pos z, if_pos ⟨by omega, z.2⟩]
      · rw [if_neg z, if_neg (fun y => ?_)]
        rcases Nat.lt_succ_iff_lt_or_eq.mp y.1 with x | x
        · exact z ⟨x, y.2⟩
        · rw [x, q] at y; cases y.2
    · rw [nI_clamp (n := k) (by omega), htr k (by omega) q, nI_1]
      refine ih (k + 1) _ (by omega) (fun i hi => ?_)
      by_cases z : i = k
      · subst z; rw [upI_s, if_pos ⟨by omega, q⟩]
      · rw [upI_n z, e i hi]
        by_cases y : i < k ∧ S.testBit i = true
        · rw [if_pos y, if_pos ⟨by omega, y.2⟩]
        · rw [if_neg y, if_neg (fun x => y ⟨by omega, x.2⟩)]
theorem best_uniq {n : Nat → Nat} {t S : Nat} {a b1 b2 : Nat → Nat} (h1 : Best n t S 0 a b1) (h2 : Best n t S 0 a b2) : ∀ i, i < 10 → S.testBit i = true → b1 i = b2 i := by
  rcases h1.2 b2 h2.1 with e | ⟨m, m1, m2, m3, m4⟩
  · exact fun i hi q => (e i hi q).symm
  rcases h2.2 b1 h1.1 with e | ⟨l, l1, l2, l3, l4⟩
  · exact e
  exfalso
  rcases Nat.lt_trichotomy m l with q | q | q
  · have := l3 m q m2; omega
  · subst q; omega
  · have := m3 l q l2; omega
theorem upd_upd {f : Nat → Int32} {k : Nat} {x y : Int32} : upd (upd f k x) k y = upd f k y := funext fun j => by
  by_cases q : j = k
  · subst q; rw [upI_s, upI_s]
  · rw [upI_n q, upI_n q, upI_n q]
/-- no neighbour before it has the tint -/
def ap (n a : Nat → Nat) (k y j : Nat) : Bool := al (fun i => !(n k).testBit i || decide (a i ≠ y)) j
theorem apart_L {n a : Nat → Nat} {near : Nat → Int32} (hn : ∀ k, k < 10 → near k = nI (n k)) (hg : ∀ k, k < 10 → n k < 1024) {S k y t : Nat} (hk : k < 10) (hnS : ∀ i, i < 10 → (n k).testBit i = true → S.testBit i = true) {T : Nat → Int32} (ha : ∀ i, i < k → S.testBit i = true → a i ≤ t) (ht : t ≤ 10) (hT : ∀ i, i < k → S.testBit i = true → T i = nI (a i)) (hTk : T k = nI y) (hy : y ≤ 11) {P0 : Int32 → Prop} (h : P0 (bI (ap n a k y k))) : ∀ (d j : Nat), j + d = k → q_X1_isApart_L4 (nI k) T near P0 (d + 1) (bI (ap n a k y j)) (nI j) := by
  intro d
  induction d with
  | zero =>
    intro j hj
    have : j = k := by omega
    subst this
    rw [q_X1_isApart_L4]
    exact ⟨fun _ => h, fun q => absurd (nI_le (Nat.le_refl _) (by omega)) q⟩
  | succ d ih =>
    intro j hj
    have := ih (j + 1) (by omega)
    have e : ap n a k y (j + 1) = (ap n a k y j && (!(n k).testBit j || decide (a j ≠ y))) := by
      unfold ap
      rw [al]
    rw [e] at this
    rw [q_X1_isApart_L4]
    refine ⟨fun q => absurd q (nI_ge (by omega) (by omega)), fun _ => ?_⟩
    rw [nI_1]
    cases hz : ap n a k y j with
    | false =>
      rw [hz] at this
      exact ⟨fun _ => this, fun q => absurd rfl q⟩
    | true =>
      rw [hz, Bool.true_and] at this
      have xk := xin_nI hk (by decide)
      have xj := xin_nI (show j < 10 by omega) (by decide)
      refine ⟨fun q => absurd q (by decide), fun _ => ⟨xk, ?_⟩⟩
      rw [nI_clamp (n := k) (by omega), nI_clamp (n := j) (by omega), hn k hk, pI_tb0 (hg k hk) (by omega), hTk]
      refine ⟨fun q => ?_, fun q => ⟨xj, xk, ?_⟩⟩
      · rw [q] at this
        exact this
      · have q2 : (n k).testBit j = true := by
          cases z : (n k).testBit j with
          | true => rfl
          | false => exact absurd z q
        have sj := hnS j (by omega) q2
        have haj := ha j (by omega) sj
        rw [hT j (by omega) sj, nI_eq (by omega) (by omega)]
        rw [q2, Bool.not_true, Bool.false_or] at this
        refine ⟨fun z => ?_, fun z => ?_⟩
        · rw [decide_eq_false (fun w => w z)] at this
          exact this
        · rw [decide_eq_true z] at this
          exact this
theorem least_y {p : Nat → Bool} {t : Nat} : ∀ (e x : Nat), x + e = t + 1 → ∃ y, x ≤ y ∧ y ≤ t + 1 ∧ (y ≤ t → p y = true) ∧ ∀ z, x ≤ z → z < y → p z = false
  | 0, x, h => ⟨x, Nat.le_refl _, by omega, fun q => by omega, fun z h1 h2 => by omega⟩
  | e + 1, x, h => by
    cases q : p x with
    | true => exact ⟨x, Nat.le_refl _, by omega, fun _ => q, fun z h1 h2 => by omega⟩
    | false =>
      obtain ⟨y, h1, h2, h3, h4⟩ := least_y (p := p) (t := t) e (x + 1) (by omega)
      refine ⟨y, by omega, h2, h3, fun z z1 z2 => ?_⟩
      by_cases e : z = x
      · rw [e]; exact q
      · exact h4 z (by omega) z2
theorem up_ex {S : Nat} : ∀ (d k : Nat), k + d = 10 → ∃ m, k ≤ m ∧ m ≤ 10 ∧ (m < 10 → S.testBit m = true) ∧ ∀ i, k ≤ i → i < m → S.testBit i = false
  | 0, k, h => ⟨k, Nat.le_refl _, by omega, fun q => by omega, fun i h1 h2 => by omega⟩
  | d + 1, k, h => by
    cases q : S.testBit k with
    | true => exact ⟨k, Nat.le_refl _, by omega, fun _ => q, fun i h1 h2 => by omega⟩
    | false =>
      obtain ⟨m, h1, h2, h3, h4⟩ := up_ex (S := S) d (k + 1) (by omega)
      refine ⟨m, by omega, h2, h3, fun i i1 i2 => ?_⟩
      by_cases e : i = k
      · rw [e]; exact q
      · exact h4 i (by omega) i2
theorem in09 {k : Nat} (hk : k < 10) {P : Int32 → Prop} (hp : P 1) : q_X1_in (nI k) 0 9 P := in_ok (nI_pos (by omega)) (nI_nlt (a := 9) (b := k) (by omega) (by decide)) hp
theorem next_up {S m : Nat} (hS : S < 1024) (hm : m ≤ 10) (hmS : m < 10 → S.testBit m = true) {P0 : Int32 → Prop} (h : P0 (nI m)) : ∀ (d k : Nat), k + d = m → (∀ i, k ≤ i → i < m → S.testBit i = false) → q_X1_next_L4 1 (nI S) P0 (d + 1) (nI k) := by
  intro d
  induction d with
  | zero =>
    intro k hk _
    have : k = m := by omega
    subst this
    rw [q_X1_next_L4]
    rcases Nat.lt_or_ge k 10 with q | q
    · exact in09 q ⟨fun z => absurd z (by decide), fun _ => isT_spec hS q (fun z => by rw [hmS q] at z; cases z) (fun _ => ⟨fun _ => h, fun z => absurd z (by decide)⟩)⟩
    · exact in_bad (Or.inr (nI_lt (a := 9) (by omega) (by omega))) ⟨fun _ => h, fun z => absurd rfl z⟩
  | succ d ih =>
    intro k hk e
    rw [q_X1_next_L4]
    refine in09 (by omega) ⟨fun z => absurd z (by decide), fun _ => isT_spec hS (by omega) (fun _ => ⟨fun z => absurd rfl z, fun _ => xl_i ?_⟩) (fun z => by rw [e k (Nat.le_refl _) (by omega)] at z; cases z)⟩
    rw [nI_1]
    exact ih (k + 1) (by omega) (fun i h1 h2 => e i (by omega) h2)
theorem nI_m1 (k : Nat) : nI (k + 1) + (-1 : Int32) = nI k := by
  have := nI_pred k
  rw [Int32.sub_eq_add_neg] at this
  exact this
theorem next_down {S m : Nat} (hS : S < 1024) (hmS : S.testBit m = true) {P0 : Int32 → Prop} (h : P0 (nI m)) : ∀ (d k : Nat), m + d = k → k < 10 → (∀ i, m < i → i ≤ k → S.testBit i = false) → q_X1_next_L4 (-1) (nI S) P0 (d + 1) (nI k) := by
  intro d
  induction d with
  | zero =>
    intro k hk hk2 _
    have : k = m := by omega
    subst this
    rw [q_X1_next_L4]
    exact in09 hk2 ⟨fun z => absurd z (by decide), fun _ => isT_spec hS hk2 (fun z => by rw [hmS] at z; cases z) (fun _ => ⟨fun _ => h, fun z => absurd z (by decide)⟩)⟩
  | succ d ih =>
    intro k hk hk2 e
    rw [q_X1_next_L4]
    refine in09 (by omega) ⟨fun z => absurd z (by decide), fun _ => isT_spec hS (by omega) (fun _ => ⟨fun z => absurd rfl z, fun _ => xl_i ?_⟩) (fun z => by rw [e k (by omega) (Nat.le_refl _)] at z; cases z)⟩
    obtain ⟨j, rfl⟩ : ∃ j, k = j + 1 := ⟨k - 1, by omega⟩
    rw [nI_m1]
    exact ih j (by omega) (by omega) (fun i h1 h2 => e i h1 (by omega))
section OD
variable {n : Nat → Nat} {near : Nat → Int32} {S t : Nat}
theorem w46 (g : Gr n) (hn : ∀ k, k < 10 → near k = nI (n k)) {k y : Nat} (hk : k < 10) (hnS : ∀ i, i < 10 → (n k).testBit i = true → S.testBit i = true) {a : Nat → Nat} {T : Nat → Int32} (ha : ∀ i, i < k → S.testBit i = true → a i ≤ t) (ht : t ≤ 10) (hT : ∀ i, i < k → S.testBit i = true → T i = nI (a i)) (hy : y ≤ t + 1) (hy3 : y ≤ t → ap n a k y k = true) {P0 : (Nat → Int32) → Prop} (h : P0 (upd T k (nI y))) : ∀ (e z : Nat), z + e = y → (∀ z', z ≤ z' → z' < y → ap n a k z' k = false) → q_X1_tintWithFewest_L46 (nI t) (nI k) near P0 (e + 1) (upd T k (nI z)) := by
  have xk := xin_nI hk (by decide)
  have hT2 : ∀ z i, i < k → S.testBit i = true → upd T k (nI z) i = nI (a i) := fun z i hi q => by rw [upI_n (by omega)]; exact hT i hi q
  intro e
  induction e with
  | zero =>
    intro z hz _
    have : z = y := by omega
    subst this
    rw [q_X1_tintWithFewest_L46]
    refine ⟨xk, fun _ => h, fun q => ?_⟩
    rw [nI_clamp (n := k) (by omega), upI_s, nI_ltI (by omega) (by omega)] at q
    refine ⟨k + 1, apart_L hn g.1 hk hnS ha ht (hT2 z) upI_s (by omega) ?_ k 0 (by omega)⟩
    rw [hy3 (by omega)]
    exact ⟨xb1, fun _ => h, fun q => absurd q (by decide)⟩
  | succ e ih =>
    intro z hz hf
    rw [q_X1_tintWithFewest_L46]
    refine ⟨xk, fun q => ?_, fun q => ?_⟩
    · rw [nI_clamp (n := k) (by omega), upI_s, nI_ltI (by omega) (by omega)] at q
      omega
    · refine ⟨k + 1, apart_L hn g.1 hk hnS ha ht (hT2 z) upI_s (by omega) ?_ k 0 (by omega)⟩
      rw [hf z (Nat.le_refl _) (by omega)]
      refine ⟨xb0, fun q => absurd rfl q, fun _ => ⟨xk, xk, ?_⟩⟩
      rw [nI_clamp (n := k) (by omega), upI_s, nI_1, upd_upd]
      exact ih (z + 1) (by omega) (fun z' h1 h2 => hf z' (by omega) h2)
theorem l30_up (g : Gr n) (hn : ∀ k, k < 10 → near k = nI (n k)) (hS : S < 1024) {k x y m : Nat} (hk : k < 10) (hnS : ∀ i, i < 10 → (n k).testBit i = true → S.testBit i = true) {a : Nat → Nat} {T : Nat → Int32} (ha : ∀ i, i < k → S.testBit i = true → a i ≤ t) (ht : t ≤ 10) (hT : ∀ i, i < k → S.testBit i = true → T i = nI (a i)) (hTk : T k = nI x) (hxy : x + 1 ≤ y) (hy : y ≤ t) (hy3 : ap n a k y k = true) (hy4 : ∀ z, x + 1 ≤ z → z < y → ap n a k z k = false) (hm1 : k + 1 ≤ m) (hm2 : m ≤ 10) (hm3 : m < 10 → S.testBit m = true) (hm4 : ∀ i, k + 1 ≤ i → i < m → S.testBit i = false) {P0 : (Nat → Int32) → Prop} {fu : Nat} (h10 : m = 10 → q_X1_tintWithFewest_L30 (nI t) near (nI S) P0 fu (nI m) (upd T k (nI y))) (hlt : m < 10 → q_X1_tintWithFewest_L30 (nI t) near (nI S) P0 fu (nI m) (upd (upd T k (nI y)) m 0)) : q_X1_tintWithFewest_L30 (nI t) near (nI S) P0 (fu + 1) (nI k) T := by
  have xk := xin_nI hk (by decide)
  rw [q_X1_tintWithFewest_L30]
  refine ⟨fun q => absurd q (ge10 hk), fun _ => ⟨xk, xk, xj1_i (upd T k (nI y)) (fun J hJ => ⟨y - (x + 1) + 1, ?_⟩) ⟨xk, ?_⟩⟩⟩
  · rw [nI_clamp (n := k) (by omega), hTk, nI_1]
    exact w46 g hn hk hnS ha ht hT (by omega) (fun _ => hy3) hJ (y - (x + 1)) (x + 1) (by omega) hy4
  · rw [nI_clamp (n := k) (by omega), upI_s, nI_ltI (by omega) (by omega)]
    refine xj1_i 1 (fun J hJ => ⟨fun q => absurd q (by omega), fun _ => hJ⟩) (xj1_i 1 (fun J hJ => ⟨fun q => absurd q (by decide), fun _ => hJ⟩) (xl_i ?_))
    rw [nI_1]
    refine ⟨m - (k + 1) + 1, next_up hS hm2 hm3 ⟨fun q => absurd q (by decide), fun _ => ⟨fun q => h10 ?_, fun q => ?_⟩⟩ (m - (k + 1)) (k + 1) (by omega) hm4⟩
    · rcases Nat.lt_or_ge m 10 with z | z
      · exact absurd q (ge10 z)
      · omega
    · have hm : m < 10 := by
        rcases Nat.lt_or_ge m 10 with z | z
        · exact z
        · exact absurd (nI_le (a := 10) z (by omega)) q
      refine ⟨xin_nI hm (by decide), ?_⟩
      rw [nI_clamp (n := m) (by omega)]
      exact hlt hm
theorem l30_down (g : Gr n) (hn : ∀ k, k < 10 → near k = nI (n k)) (hS : S < 1024) {k x m : Nat} (hk : k < 10) (hnS : ∀ i, i < 10 → (n k).testBit i = true → S.testBit i = true) {a : Nat → Nat} {T : Nat → Int32} (ha : ∀ i, i < k → S.testBit i = true → a i ≤ t) (ht : t ≤ 10) (hT : ∀ i, i < k → S.testBit i = true → T i = nI (a i)) (hTk : T k = nI x) (hxt : x ≤ t) (hy4 : ∀ z, x + 1 ≤ z → z < t + 1 → ap n a k z k = false) (hm1 : m < k) (hm3 : S.testBit m = true) (hm4 : ∀ i, m < i → i < k → S.testBit i = false) {P0 : (Nat → Int32) → Prop} {fu : Nat} (h : q_X1_tintWithFewest_L30 (nI t) near (nI S) P0 fu (nI m) (upd T k (nI (t + 1)))) : q_X1_tintWithFewest_L30 (nI t) near (nI S) P0 (fu + 1) (nI k) T := by
  have xk := xin_nI hk (by decide)
  rw [q_X1_tintWithFewest_L30]
  refine ⟨fun q => absurd q (ge10 hk), fun _ => ⟨xk, xk, xj1_i (upd T k (nI (t + 1))) (fun J hJ => ⟨t - x + 1, ?_⟩) ⟨xk, ?_⟩⟩⟩
  · rw [nI_clamp (n := k) (by omega), hTk, nI_1]
    exact w46 g hn hk hnS ha ht hT (by omega) (fun q => by omega) hJ (t - x) (x + 1) (by omega) hy4
  · rw [nI_clamp (n := k) (by omega), upI_s, nI_ltI (by omega) (by omega)]
    refine xj1_i 0 (fun J hJ => ⟨fun _ => hJ, fun q => absurd (by omega) q⟩) (xj1_i (-1) (fun J hJ => ⟨fun _ => hJ, fun q => absurd rfl q⟩) (xl_i ?_))
    obtain ⟨j, rfl⟩ : ∃ j, k = j + 1 := ⟨k - 1, by omega⟩
    rw [nI_m1]
    exact ⟨j - m + 1, next_down hS hm3 ⟨fun _ => h, fun q => absurd rfl q⟩ (j - m) j (by omega) (by omega) (fun i h1 h2 => hm4 i h1 (by omega))⟩
def BX (n : Nat → Nat) (t S k : Nat) (a : Nat → Nat) (x : Nat) (b : Nat → Nat) : Prop := Ext n t S k a b ∧ x < b k ∧ ∀ col, Ext n t S k a col → x < col k → Lx S b col
def EX (n : Nat → Nat) (t S k : Nat) (a : Nat → Nat) (x : Nat) : Prop := ∃ col, Ext n t S k a col ∧ x < col k
theorem od (g : Gr n) (hn : ∀ k, k < 10 → near k = nI (n k)) (hS : S < 1024) (hnS : ∀ k i, k < 10 → i < 10 → (n k).testBit i = true → S.testBit i = true) (ht : t ≤ 10) {P0 : (Nat → Int32) → Prop} : ∀ (D k : Nat), 10 - k ≤ D → k < 10 → S.testBit k = true → ∀ (e x : Nat), x + e = t → ∀ (a : Nat → Nat) (T : Nat → Int32), PC n t S k a → (∀ i, i < k → S.testBit i = true → T i = nI (a i)) → T k = nI x → (EX n t S k a x → ∀ T' b, BX n t S k a x b → (∀ i, i < 10 → S.testBit i = true → T' i = nI (b i)) → (∀ i, i < 10 → S.testBit i = false → T' i = T i) → P0 T') → (¬ EX n t S k a x → ∃ m0, m0 < k ∧ S.testBit m0 = true ∧ (∀ i, m0 < i → i < k → S.testBit i = false) ∧ ∀ T', (∀ i, i < 10 → S.testBit i = false → T' i = T i) → (∀ i, i < k → S.testBit i = true → T' i = T i) → ∃ fu, q_X1_tintWithFewest_L30 (nI t) near (nI S) P0 fu (nI m0) T') → ∃ fu, q_X1_tintWithFewest_L30 (nI t) near (nI S) P0 fu (nI k) T := by
  intro D
  induction D with
  | zero => intro k h1 h2; omega
  | succ D ihD =>
    intro k hD hk sk e
    induction e using Nat.strongRecOn with
    | ind e ihe =>
      intro x hx a T hpc hT hTk hs hf
      have ha : ∀ i, i < k → S.testBit i = true → a i ≤ t := fun i hi q => (hpc.1 i hi q).2
      obtain ⟨y, y1, y2, y3, y4⟩ := least_y (p := fun y => ap n a k y k) (t := t) e (x + 1) (by omega)
      have hcol : ∀ col, Ext n t S k a col → x < col k → y ≤ col k := fun col hc hxc => by
        refine Nat.not_lt.mp fun hlt => ?_
        have h1 : ap n a k (col k) k = false := y4 (col k) (by omega) hlt
        have h2 : ap n a k (col k) k = true := al_iff.mpr fun i hi => by
          cases q : (n k).testBit i with
          | false => rfl
          | true =>
            have si := hnS k i hk (by omega) q
            have := hc.1.2 k i hk (by omega) sk si q
            rw [Bool.not_true, Bool.false_or, decide_eq_true_iff, ← hc.2 i hi si]
            exact fun z => this z.symm
        rw [h1] at h2
        cases h2
      rcases Nat.lt_or_ge t y with hyt | hyt
      · have ey : y = t + 1 := by omega
        subst ey
        have hno : ¬ EX n t S k a x := fun ⟨col, hc, hxc⟩ => by
          have := hcol col hc hxc
          have := (hc.1.1 k hk sk).2
          omega
        obtain ⟨m0, m1, m2, m3, m4⟩ := hf hno
        obtain ⟨fu, hfu⟩ := m4 (upd T k (nI (t + 1))) (fun i hi q => upI_n (fun z => by rw [z, sk] at q; cases q)) (fun i hi q => upI_n (by omega))
        exact ⟨fu + 1, l30_down g hn hS hk (hnS k · hk) ha ht hT hTk (by omega) y4 m1 m2 m3 hfu⟩
      · obtain ⟨m, m1, m2, m3, m4⟩ := up_ex (S := S) (10 - (k + 1)) (k + 1) (by omega)
        have hfree : ∀ i, i < k → S.testBit i = true → (n k).testBit i = true → a i ≠ y := fun i hi si q => by
          have := al_iff.mp (y3 hyt) i hi
          rw [q, Bool.not_true, Bool.false_or, decide_eq_true_iff] at this
          exact this
        have hpc2 := pc_step g hk hpc (by omega) hyt hfree
        rcases Nat.lt_or_ge m 10 with hm | hm
        · have hpc3 : PC n t S m (fun i => if i = k then y else a i) := by
            have key : ∀ i, i < m → S.testBit i = true → i < k + 1 := fun i hi q => by
              rcases Nat.lt_or_ge i (k + 1) with z | z
              · exact z
              · rw [m4 i z hi] at q; cases q
            exact ⟨fun i hi q => hpc2.1 i (key i hi q) q, fun i j hi hj p q c => hpc2.2 i j (key i hi p) (key j hj q) p q c⟩
          have hT3 : ∀ i, i < m → S.testBit i = true → upd (upd T k (nI y)) m 0 i = nI (if i = k then y else a i) := fun i hi q => by
            rw [upI_n (by omega)]
            by_cases z : i = k
            · subst z; rw [upI_s, if_pos rfl]
            · rw [upI_n z, if_neg z]
              rcases Nat.lt_or_ge i (k + 1) with w | w
              · exact hT i (by omega) q
              · rw [m4 i w hi] at q; cases q
          have toM : ∀ col, Ext n t S k a col → col k = y → Ext n t S m (fun i => if i = k then y else a i) col := fun col hc e => by
            have h1 := ext_step hc (fun _ => e)
            refine ⟨hc.1, fun i hi q => ?_⟩
            rcases Nat.lt_or_ge i (k + 1) with w | w
            · exact h1.2 i w q
            · rw [m4 i w hi] at q; cases q
          have ofM : ∀ col, Ext n t S m (fun i => if i = k then y else a i) col → Ext n t S k a col ∧ col k = y := fun col hc => by
            have h1 := ext_back (n := n) (t := t) (S := S) (k := k) (v := y) (a := a) ⟨hc.1, fun i hi q => hc.2 i (by omega) q⟩
            exact ⟨h1.1, h1.2 sk⟩
          have posm : ∀ col, Ext n t S m (fun i => if i = k then y else a i) col → 0 < col m := fun col hc => (hc.1.1 m hm (m3 hm)).1
          obtain ⟨fu, hfu⟩ := ihD m (by omega) hm (m3 hm) t 0 (Nat.zero_add _) (fun i => if i = k then y else a i) (upd (upd T k (nI y)) m 0) hpc3 hT3 upI_s (fun hE T' b hb hb2 hfr => by
            obtain ⟨b1, b2, b3⟩ := hb
            obtain ⟨c1, c2⟩ := ofM b b1
            refine hs ⟨b, c1, by omega⟩ T' b ⟨c1, by omega, fun col hc hxc => ?_⟩ hb2 (fun i hi q => ?_)
            · have h1 := hcol col hc hxc
              by_cases z : col k = y
              · have h2 := toM col hc z
                exact b3 col h2 (posm col h2)
              · exact Or.inr ⟨k, hk, sk, fun i hi q => by rw [hc.2 i hi q, c1.2 i hi q], by omega⟩
            · rw [hfr i hi q, upI_n (fun z => by rw [z, m3 hm] at q; cases q), upI_n (fun z => by rw [z, sk] at q; cases q)]) (fun hE => by
            refine ⟨k, by omega, sk, fun i i1 i2 => m4 i (by omega) i2, fun T' hfr1 hfr2 => ?_⟩
            have hne : ∀ col, Ext n t S k a col → x < col k → y < col k := fun col hc hxc => by
              have h1 := hcol col hc hxc
              rcases Nat.lt_or_ge y (col k) with z | z
              · exact z
              · have h2 := toM col hc (by omega)
                exact absurd ⟨col, h2, posm col h2⟩ hE
            refine ihe (t - y) (by omega) y (by omega) a T' hpc (fun i hi q => ?_) ?_ (fun hE2 T'' b hb hb2 hfr => ?_) (fun hE2 => ?_)
            · rw [hfr2 i (by omega) q, hT3 i (by omega) q, if_neg (by omega)]
            · rw [hfr2 k (by omega) sk, hT3 k (by omega) sk, if_pos rfl]
            · obtain ⟨b1, b2, b3⟩ := hb
              refine hs ⟨b, b1, by omega⟩ T'' b ⟨b1, by omega, fun col hc hxc => b3 col hc (hne col hc hxc)⟩ hb2 (fun i hi q => ?_)
              rw [hfr i hi q, hfr1 i hi q, upI_n (fun z => by rw [z, m3 hm] at q; cases q), upI_n (fun z => by rw [z, sk] at q; cases q)]
            · obtain ⟨m0, k1, k2, k3, k4⟩ := hf (fun ⟨col, hc, hxc⟩ => hE2 ⟨col, hc, hne col hc hxc⟩)
              refine ⟨m0, k1, k2, k3, fun T'' f1 f2 => k4 T'' (fun i hi q => ?_) (fun i hi q => ?_)⟩
              · rw [f1 i hi q, hfr1 i hi q, upI_n (fun z => by rw [z, m3 hm] at q; cases q), upI_n (fun z => by rw [z, sk] at q; cases q)]
              · rw [f2 i hi q, hfr2 i (by omega) q, upI_n (by omega), upI_n (by omega)])
          exact ⟨fu + 1, l30_up g hn hS hk (hnS k · hk) ha ht hT hTk y1 hyt (y3 hyt) y4 m1 m2 m3 m4 (fun q => by omega) (fun _ => hfu)⟩
        · have em : m = 10 := by omega
          subst em
          refine ⟨2, l30_up g hn hS hk (hnS k · hk) ha ht hT hTk y1 hyt (y3 hyt) y4 m1 m2 m3 m4 (fun _ => ?_) (fun q => absurd q (by decide))⟩
          rw [q_X1_tintWithFewest_L30]
          refine ⟨fun _ => ?_, fun q => absurd (by decide) q⟩
          have key : ∀ i, i < 10 → S.testBit i = true → i < k + 1 := fun i hi q => by
            rcases Nat.lt_or_ge i (k + 1) with z | z
            · exact z
            · rw [m4 i z hi] at q; cases q
          have hb : BX n t S k a x (fun i => if i = k then y else a i) := by
            refine ⟨⟨⟨fun i hi q => hpc2.1 i (key i hi q) q, fun i j hi hj p q c => hpc2.2 i j (key i hi p) (key j hj q) p q c⟩, fun i hi _ => if_neg (by omega)⟩, ?_, fun col hc hxc => ?_⟩
            · show x < if k = k then y else a k
              rw [if_pos rfl]; omega
            · have h1 := hcol col hc hxc
              by_cases z : col k = y
              · refine Or.inl fun i hi q => ?_
                have := key i hi q
                show col i = if i = k then y else a i
                by_cases w : i = k
                · rw [if_pos w, w]; exact z
                · rw [if_neg w]; exact hc.2 i (by omega) q
              · refine Or.inr ⟨k, hk, sk, fun i hi q => ?_, ?_⟩
                · show col i = if i = k then y else a i
                  rw [if_neg (by omega)]; exact hc.2 i hi q
                · show (if k = k then y else a k) < col k
                  rw [if_pos rfl]; omega
          refine hs ⟨_, hb.1, hb.2.1⟩ _ _ hb (fun i hi q => ?_) (fun i hi q => upI_n (fun z => by rw [z, sk] at q; cases q))
          have := key i hi q
          show upd T k (nI y) i = nI (if i = k then y else a i)
          by_cases w : i = k
          · subst w; rw [upI_s, if_pos rfl]
          · rw [upI_n w, if_neg w]; exact hT i (by omega) q
end OD
theorem twf1_spec {c : Nat → Nat} {mcel mtint : Nat → Int32} (hc : ∀ i, i < 36 → mcel i = cv (c i)) (hb : ∀ i, i < 36 → c i ≤ 10) {f : Nat} (hf : f ≤ 10) (h1 : rr (ne_S c) f (th_S c) ≠ 0) (h0 : ∀ k, k < f → rr (ne_S c) k (th_S c) = 0) {cells ways more : Nat → Int64} {near : Nat → Int32} {P : Int32 → (Nat → Int32) → (Nat → Int64) → (Nat → Int32) → Int32 → (Nat → Int64) → (Nat → Int64) → Int32 → Prop} (h : ∀ cells' near' w' m' T' b, Best (ne_S c) f (th_S c) 0 (fun _ => 0) b → (∀ i, i < 10 → (th_S c).testBit i = true → T' i = nI (b i)) → (∀ i, i < 10 → (th_S c).testBit i = false → T' i = mtint i) → P (nI f) T' cells' near' (nI (th_S c)) w' m' 0) : q_X1_tintWithFewest mcel mtint cells near ways more P := by
  unfold q_X1_tintWithFewest
  refine fewest_spec hc hb hf h1 h0 (fun cells' near' w' m' hn => xl_i ?_)
  have g := gr_ne c
  have hS := th_lt c
  obtain ⟨m, m1, m2, m3, m4⟩ := up_ex (S := th_S c) 10 0 rfl
  refine ⟨m + 1, next_up (k := 0) hS m2 m3 ?_ m (by omega) m4⟩
  rcases Nat.lt_or_ge m 10 with hm | hm
  · refine xj1_i (upd mtint m 0) (fun J hJ => ⟨fun q => absurd q (ge10 hm), fun _ => ⟨xin_nI hm (by decide), ?_⟩⟩) ?_
    · rw [nI_clamp (n := m) (by omega)]; exact hJ
    · have emp : ∀ i, i < m → (th_S c).testBit i = true → False := fun i hi q => by rw [m4 i (Nat.zero_le _) hi] at q; cases q
      have toM : ∀ col, Col (ne_S c) f (th_S c) col → Ext (ne_S c) f (th_S c) m (fun _ => 0) col ∧ 0 < col m := fun col hcol => ⟨⟨hcol, fun i hi q => (emp i hi q).elim⟩, (hcol.1 m hm (m3 hm)).1⟩
      obtain ⟨col, hcol⟩ := (rr_col g f (th_S c) hS).mp h1
      refine od g hn hS (fun k i _ hi a => ne_th hi a) hf 10 m (by omega) hm (m3 hm) f 0 (Nat.zero_add _) (fun _ => 0) (upd mtint m 0) ⟨fun i hi q => (emp i hi q).elim, fun i j hi _ q => (emp i hi q).elim⟩ (fun i hi q => (emp i hi q).elim) upI_s (fun _ T' b hbx hb2 hfr => ?_) (fun hE => absurd ⟨col, toM col hcol⟩ hE)
      refine h cells' near' w' m' T' b ⟨⟨hbx.1.1, fun i hi => absurd hi (Nat.not_lt_zero i)⟩, fun col hc2 => hbx.2.2 col (toM col hc2.1).1 (toM col hc2.1).2⟩ hb2 (fun i hi q => ?_)
      rw [hfr i hi q, upI_n (fun z => by rw [z, m3 hm] at q; cases q)]
  · have em : m = 10 := by omega
    subst em
    refine xj1_i mtint (fun J hJ => ⟨fun _ => hJ, fun q => absurd (by decide) q⟩) ⟨1, ?_⟩
    rw [q_X1_tintWithFewest_L30]
    refine ⟨fun _ => ?_, fun q => absurd (by decide) q⟩
    have emp : ∀ i, i < 10 → (th_S c).testBit i = true → False := fun i hi q => by rw [m4 i (Nat.zero_le _) hi] at q; cases q
    exact h cells' near' w' m' mtint (fun _ => 0) ⟨⟨⟨fun i hi q => (emp i hi q).elim, fun i j hi _ q => (emp i hi q).elim⟩, fun i hi => absurd hi (Nat.not_lt_zero i)⟩, fun col _ => Or.inl (fun i hi q => (emp i hi q).elim)⟩ (fun i hi q => (emp i hi q).elim) (fun _ _ _ => rfl)
section CASES
variable {L : Nat} {xs : Nat → Int32} {rec9 : recT} {i : Int32} {land : Nat → Int64} {there : Int32} {near : Nat → Int32} {worn : Nat → Int32} {trial : Nat → Int32} {fits : Nat → Int32} {ways : Nat → Int64} {joined : Nat → Nat → Int32} {mcel : Nat → Int32} {mtint : Nat → Int32} {mcells : Nat → Int64} {mnear : Nat → Int32} {mthere : Int32} {mways : Nat → Int64} {mmore : Nat → Int64} {mthrown : Int32} {out : Nat → Int64} {c t : Nat → Nat}
theorem case21 (r : RelX land there near worn mcel mtint c t) (hr : RecOK rec9 i) : q_L_case21 L xs rec9 i land there near worn trial fits ways joined mcel mtint mcells mnear mthere mways mmore mthrown out := by
  obtain ⟨hb, ht, hl, hth, hn, hw, hc, hm⟩ := id r
  subst hth
  obtain ⟨f, f1, f2, f3⟩ := few_ex (gr_ne c) (th_lt c)
  unfold q_L_case21 q_X0_tintWithFewest
  refine tryFewest_spec (gr_ne c) hn (th_lt c) (fun k i hk hi a => ne_th hi a) f1 f2 f3 (fun b trial' hB htr => ⟨11, twf_L7 (t := t) htr (fun w hw' => ?_) 10 0 worn rfl (fun j hj => by rw [if_neg (fun z => Nat.not_lt_zero j z.1)]; exact hw j hj)⟩)
  refine twf1_spec hc hb f1 f2 f3 (fun cells' near' w' m' T' b2 hB2 hT1 hT2 => ?_)
  have e := best_uniq hB hB2
  exact end_eq (hr _ _ _ _ _ _ _ _ _ _ _ _ _ _ _ _ _ c _ (rel_t r (t' := fun j => if (th_S c).testBit j = true then b j else t j) (fun j hj => by
    show (if (th_S c).testBit j = true then b j else t j) ≤ 10
    by_cases q : (th_S c).testBit j = true
    · rw [if_pos q]
      have := (hB.1.1.1 j hj q).2
      omega
    · rw [if_neg q]; exact ht j hj) hw' (fun j hj => by
    show T' j = nI (if (th_S c).testBit j = true then b j else t j)
    by_cases q : (th_S c).testBit j = true
    · rw [if_pos q, hT1 j hj q, e j hj q]
    · rw [if_neg q, hT2 j hj (bfalse q), hm j hj])))
end CASES
