/-! the pure side: the reference's counting, tint by tint -/
theorem wi_mi {A S : Nat} (hA : A < 1024) : wi A S ↔ mi A S = 0 := by
  rw [mi0_iff (n := 10) hA]
  exact ⟨fun h i _ a => h i a, fun h i a => h i (bit_lt (n := 10) hA a) a⟩
theorem wi_le {A S : Nat} (h : wi A S) : A ≤ S := by
  have : A = A &&& S := Nat.eq_of_testBit_eq fun i => by
    rw [Nat.testBit_and]
    cases a : A.testBit i with
    | false => rfl
    | true => rw [h i a]; rfl
  rw [this]
  exact Nat.and_le_right
theorem half_bit (a i : Nat) : (a / 2).testBit i = a.testBit (i + 1) := by
  rw [show a / 2 = a / 2 ^ 1 from rfl, Nat.testBit_div_two_pow, Nat.add_comm]
theorem half_and (a b : Nat) : (a &&& b) / 2 = a / 2 &&& b / 2 := Nat.eq_of_testBit_eq fun i => by
  rw [half_bit, Nat.testBit_and, Nat.testBit_and, half_bit, half_bit]
theorem odd_and (a b : Nat) : (a &&& b) % 2 = 1 ↔ a % 2 = 1 ∧ b % 2 = 1 := by
  have := Nat.testBit_and a b 0
  simp only [Nat.testBit_zero] at this
  rw [← decide_eq_true_iff (p := (a &&& b) % 2 = 1), this, Bool.and_eq_true, decide_eq_true_iff, decide_eq_true_iff]
/-- between a subset and the one that is taken next there is none -/
theorem sub_le : ∀ (x y m : Nat), wi x m → wi y m → y < x → y ≤ (x - 1) &&& m := by
  intro x
  induction x using Nat.strongRecOn with
  | ind x ih =>
    intro y m hx hy hlt
    have hx2 : wi (x / 2) (m / 2) := fun i h => by rw [half_bit] at h ⊢; exact hx _ h
    have hy2 : wi (y / 2) (m / 2) := fun i h => by rw [half_bit] at h ⊢; exact hy _ h
    have ez := half_and (x - 1) m
    have eo := odd_and (x - 1) m
    have hym : y % 2 = 1 → m % 2 = 1 := fun h => by
      have := hy 0 (by rw [Nat.testBit_zero]; exact decide_eq_true h)
      rw [Nat.testBit_zero, decide_eq_true_iff] at this
      exact this
    rcases Nat.mod_two_eq_zero_or_one x with h | h
    · have i2 := ih (x / 2) (by omega) (y / 2) (m / 2) hx2 hy2 (by omega)
      rw [show x / 2 - 1 = (x - 1) / 2 by omega, ← ez] at i2
      omega
    · have e : x / 2 &&& m / 2 = x / 2 := wi_anti (wi_and_l _ _) (fun i q => by rw [Nat.testBit_and, q, hx2 i q]; rfl)
      rw [show (x - 1) / 2 = x / 2 by omega, e] at ez
      omega
theorem nI_sub1 {x : Nat} (h : 0 < x) : nI x - (1 : Int32) = nI (x - 1) := by
  obtain ⟨y, rfl⟩ : ∃ y, x = y + 1 := ⟨x - 1, by omega⟩
  exact nI_pred y
theorem mi_self_or {x A : Nat} (h : ∀ i, x.testBit i = true → A.testBit i = false) : mi (x ||| A) A = x := Nat.eq_of_testBit_eq fun i => by
  rw [mi_bit, Nat.testBit_or]
  cases a : x.testBit i with
  | true => rw [h i a]; rfl
  | false => cases A.testBit i <;> rfl
theorem or_mi_self {s A : Nat} (h : wi A s) : mi s A ||| A = s := Nat.eq_of_testBit_eq fun i => by
  rw [Nat.testBit_or, mi_bit]
  cases a : A.testBit i with
  | true => rw [h i a]; rfl
  | false => cases s.testBit i <;> rfl
theorem adds_51 {th A : Nat} (hth : th < 1024) (hA : wi A th) {ways : Nat → Int64} {W : Nat → Nat} (hW : ∀ s, wi s th → ways s = lN (W s)) (M : Nat → Nat) {P0 : (Nat → Int64) → Prop} (h : ∀ m', (∀ s, wi s th → m' s = lN (M s + (if mi A s = 0 then W (mi s A) else 0))) → P0 m') : ∀ (x : Nat), wi x (mi th A) → ∀ m : Nat → Int64, (∀ s, wi s th → m s = lN (M s + (if mi A s = 0 ∧ x < mi s A then W (mi s A) else 0))) → ∃ n, q_X1_adds_L51 (nI A) (nI (mi th A)) ways P0 n (nI x) m := by
  have hA2 : A < 1024 := wi_lt (n := 10) hA hth
  intro x
  induction x using Nat.strongRecOn with
  | ind x ih =>
    intro hx m hm
    have hxt : wi x th := fun i q => by
      have := hx i q
      rw [mi_bit, Bool.and_eq_true] at this
      exact this.1
    have hxA : ∀ i, x.testBit i = true → A.testBit i = false := fun i q => by
      have := hx i q
      rw [mi_bit, Bool.and_eq_true, Bool.not_eq_true'] at this
      exact this.2
    have hx2 : x < 1024 := wi_lt (n := 10) hxt hth
    have hs : wi (x ||| A) th := fun i q => by
      rw [Nat.testBit_or, Bool.or_eq_true] at q
      rcases q with q | q
      · exact hxt i q
      · exact hA i q
    have hs2 : x ||| A < 1024 := wi_lt (n := 10) hs hth
    have es := mi_self_or hxA
    have eA : mi A (x ||| A) = 0 := (wi_mi hA2).mp (fun i q => by rw [Nat.testBit_or, q, Bool.or_true])
    have x1 := xin_nI hs2 (by decide)
    have x2 := xin_nI hx2 (by decide)
    have val : m (x ||| A) + ways x = lN (M (x ||| A) + W x) := by
      rw [hm _ hs, es, if_neg (fun z => Nat.lt_irrefl _ z.2), hW x hxt, Nat.add_zero, lN_add]
    have upd_s : ∀ s, wi s th → s ≠ x ||| A → vp_updL m (x ||| A) (lN (M (x ||| A) + W x)) s = lN (M s + (if mi A s = 0 ∧ x < mi s A then W (mi s A) else 0)) := fun s hs q => by rw [upL_n q, hm s hs]
    have ne_s : ∀ s, mi A s = 0 → s ≠ x ||| A → mi s A ≠ x := fun s a q e => q (by rw [← or_mi_self ((wi_mi hA2).mpr a), e])
    rcases Nat.eq_zero_or_pos x with e0 | e0
    · refine ⟨2, ?_⟩
      rw [q_X1_adds_L51]
      refine ⟨fun q => absurd q (nI_pos (by omega)), fun _ => ?_⟩
      rw [pI_or, nI_clamp (n := x ||| A) (by omega), nI_clamp (n := x) (by omega), val]
      refine ⟨x1, x2, x1, fun q => absurd (by rw [e0]; rfl) q, fun _ => ?_⟩
      rw [q_X1_adds_L51]
      refine ⟨fun _ => h _ (fun s hs3 => ?_), fun q => absurd (by decide) q⟩
      by_cases q : s = x ||| A
      · subst q
        rw [upL_s, if_pos eA, es]
      · rw [upd_s s hs3 q]
        by_cases a : mi A s = 0
        · have := ne_s s a q
          rw [if_pos a, if_pos ⟨a, by omega⟩]
        · rw [if_neg a, if_neg (fun z => a z.1)]
    · have hlt : (x - 1) &&& mi th A < x := Nat.lt_of_le_of_lt Nat.and_le_left (by omega)
      obtain ⟨n, hn⟩ := ih ((x - 1) &&& mi th A) hlt (wi_and_r _ _) (vp_updL m (x ||| A) (lN (M (x ||| A) + W x))) (fun s hs3 => by
        by_cases q : s = x ||| A
        · subst q
          rw [upL_s, es, if_pos ⟨eA, hlt⟩]
        · rw [upd_s s hs3 q]
          by_cases a : mi A s = 0
          · have n1 := ne_s s a q
            have hsub : wi (mi s A) (mi th A) := fun i z => by
              rw [mi_bit, Bool.and_eq_true] at z ⊢
              exact ⟨hs3 i z.1, z.2⟩
            have iff : x < mi s A ↔ (x - 1) &&& mi th A < mi s A := by
              constructor
              · intro z; omega
              · intro z
                rcases Nat.lt_trichotomy (mi s A) x with y | y | y
                · have := sub_le x (mi s A) (mi th A) hx hsub y
                  omega
                · exact absurd y n1
                · exact y
            by_cases z : x < mi s A
            · rw [if_pos ⟨a, z⟩, if_pos ⟨a, iff.mp z⟩]
            · rw [if_neg (fun y => z y.2), if_neg (fun y => z (iff.mpr y.2))]
          · rw [if_neg (fun z => a z.1), if_neg (fun z => a z.1)])
      refine ⟨n + 1, ?_⟩
      rw [q_X1_adds_L51]
      refine ⟨fun q => absurd q (nI_pos (by omega)), fun _ => ?_⟩
      rw [pI_or, nI_clamp (n := x ||| A) (by omega), nI_clamp (n := x) (by omega), val]
      refine ⟨x1, x2, x1, fun _ => xl_i ?_, fun q => absurd q (nI_ne0 e0 (by omega))⟩
      rw [nI_sub1 e0, pI_and]
      exact hn
def adT (n : Nat → Nat) (th : Nat) (W : Nat → Nat) (s A : Nat) : Nat := if (decide (mi A th = 0) && idb n A) = true then (if mi A s = 0 then W (mi s A) else 0) else 0
def adN (n : Nat → Nat) (W : Nat → Nat) (s : Nat) : Nat := sb s 10 (fun A => if idb n A = true then W (mi s A) else 0)
theorem adT_sum {n : Nat → Nat} {th : Nat} {W : Nat → Nat} {s : Nat} (hs : wi s th) : sm (adT n th W s) 1024 = adN n W s := by
  unfold adN
  rw [← sb_lin]
  refine sm_cong fun A hA => ?_
  unfold adT
  by_cases a : mi A s = 0
  · have : mi A th = 0 := (wi_mi hA).mp (wi_tr ((wi_mi hA).mpr a) hs)
    rw [decide_eq_true this, Bool.true_and, if_pos a, if_pos a]
  · rw [if_neg a, if_neg a, ite_self]
theorem adds_24 {n : Nat → Nat} {near : Nat → Int32} (hn : ∀ k, k < 10 → near k = nI (n k)) (hg : ∀ k, k < 10 → n k < 1024) {th : Nat} (hth : th < 1024) {ways : Nat → Int64} {W : Nat → Nat} (hW : ∀ s, wi s th → ways s = lN (W s)) {P0 : (Nat → Int64) → Prop} (h : ∀ m', (∀ s, wi s th → m' s = lN (adN n W s)) → P0 m') : ∀ (d g : Nat) (m : Nat → Int64), g + d = 1024 → (∀ s, wi s th → m s = lN (sm (adT n th W s) g)) → q_X1_adds_L24 near (nI th) ways P0 (d + 1) (nI g) m := by
  intro d
  induction d with
  | zero =>
    intro g m hd hm
    have : g = 1024 := by omega
    subst this
    rw [q_X1_adds_L24]
    exact ⟨fun _ => h m (fun s hs => by rw [hm s hs, adT_sum hs]), fun q => absurd (by decide) q⟩
  | succ d ih =>
    intro g m hd hm
    have hg2 : g < 1024 := by omega
    rw [q_X1_adds_L24]
    refine ⟨fun q => absurd q (ge1024 hg2), fun _ => areNear_spec hn hg hg2 false ?_⟩
    rw [nI_1]
    have nx := fun m' => ih (g + 1) m' (by omega)
    cases hz : (decide (mi g th = 0) && al (aq n false g) 10) with
    | false =>
      refine ⟨fun _ => nx m (fun s hs => ?_), fun q => absurd rfl q⟩
      rw [hm s hs, sm]
      unfold adT idb
      rw [hz, if_neg (by decide), Nat.add_zero]
    | true =>
      have hz2 := hz
      rw [Bool.and_eq_true, decide_eq_true_iff] at hz2
      have hgt : wi g th := (wi_mi hg2).mpr hz2.1
      refine ⟨fun q => absurd q (by decide), fun _ => xl_i ?_⟩
      rw [pI_mi]
      refine adds_51 hth hgt hW (fun s => sm (adT n th W s) g) (fun m' hm' => nx m' (fun s hs => ?_)) (mi th g) (wi_rf _) m (fun s hs => ?_)
      · rw [hm' s hs]
        show lN (sm (adT n th W s) g + _) = lN (sm (adT n th W s) g + adT n th W s g)
        congr 2
        unfold adT idb
        rw [hz, if_pos rfl]
      · rw [hm s hs, if_neg (fun z => ?_), Nat.add_zero]
        have : mi s g ≤ mi th g := wi_le (fun i y => by
          rw [mi_bit, Bool.and_eq_true] at y ⊢
          exact ⟨hs i y.1, y.2⟩)
        omega
theorem adds_2 {P0 : (Nat → Int64) → Prop} (h : ∀ m', (∀ s, s < 1024 → m' s = 0) → P0 m') : ∀ (d k : Nat) (m : Nat → Int64), k + d = 1024 → (∀ s, s < k → m s = 0) → q_X1_adds_L2 P0 (d + 1) (nI k) m := by
  intro d
  induction d with
  | zero =>
    intro k m hk e
    have : k = 1024 := by omega
    subst this
    rw [q_X1_adds_L2]
    exact ⟨fun _ => h m e, fun q => absurd (by decide) q⟩
  | succ d ih =>
    intro k m hk e
    rw [q_X1_adds_L2]
    refine ⟨fun q => absurd q (ge1024 (by omega)), fun _ => ⟨xin_nI (by omega) (by decide), ?_⟩⟩
    rw [nI_clamp (n := k) (by omega), nI_1]
    refine ih (k + 1) _ (by omega) (fun s hs => ?_)
    by_cases q : s = k
    · subst q; exact upL_s
    · rw [upL_n q]; exact e s (by omega)
theorem adds_97 {more : Nat → Int64} {P0 : (Nat → Int64) → Prop} (h : ∀ m', (∀ s, s < 1024 → m' s = more s) → P0 m') : ∀ (d k : Nat) (m : Nat → Int64), k + d = 1024 → (∀ s, s < k → m s = more s) → q_X1_adds_L97 more P0 (d + 1) (nI k) m := by
  intro d
  induction d with
  | zero =>
    intro k m hk e
    have : k = 1024 := by omega
    subst this
    rw [q_X1_adds_L97]
    exact ⟨fun _ => h m e, fun q => absurd (by decide) q⟩
  | succ d ih =>
    intro k m hk e
    have xk := xin_nI (show k < 1024 by omega) (by decide)
    rw [q_X1_adds_L97]
    refine ⟨fun q => absurd q (ge1024 (by omega)), fun _ => ⟨xk, xk, ?_⟩⟩
    rw [nI_clamp (n := k) (by omega), nI_1]
    refine ih (k + 1) _ (by omega) (fun s hs => ?_)
    by_cases q : s = k
    · subst q; exact upL_s
    · rw [upL_n q]; exact e s (by omega)
theorem adds_spec {n : Nat → Nat} {near : Nat → Int32} (hn : ∀ k, k < 10 → near k = nI (n k)) (hg : ∀ k, k < 10 → n k < 1024) {th : Nat} (hth : th < 1024) {ways more : Nat → Int64} {W : Nat → Nat} (hW : ∀ s, wi s th → ways s = lN (W s)) {P : (Nat → Int64) → (Nat → Int64) → Prop} (h : ∀ w' m', (∀ s, wi s th → w' s = lN (adN n W s)) → P w' m') : q_X1_adds near (nI th) ways more P := by
  refine ⟨1025, adds_2 (fun m0 h0 => ⟨1025, ?_⟩) 1024 0 more rfl (fun s hs => absurd hs (Nat.not_lt_zero s))⟩
  refine adds_24 hn hg hth hW (fun m1 h1 => ⟨1025, ?_⟩) 1024 0 m0 rfl (fun s hs => h0 s (wi_lt (n := 10) hs hth))
  exact adds_97 (fun w' hw' => h w' m1 (fun s hs => by rw [hw' s (wi_lt (n := 10) hs hth), h1 s hs])) 1024 0 ways rfl (fun s hs => absurd hs (Nat.not_lt_zero s))
theorem begins_6 {P0 : (Nat → Int64) → Prop} (h : ∀ w', (∀ s, s < 1024 → w' s = lN (if s = 0 then 1 else 0)) → P0 w') : ∀ (d k : Nat) (w : Nat → Int64), k + d = 1024 → (∀ s, s < k → w s = lN (if s = 0 then 1 else 0)) → q_X1_begins_L6 P0 (d + 1) (nI k) w := by
  intro d
  induction d with
  | zero =>
    intro k m hk e
    have : k = 1024 := by omega
    subst this
    rw [q_X1_begins_L6]
    exact ⟨fun _ => h m e, fun q => absurd (by decide) q⟩
  | succ d ih =>
    intro k m hk e
    have xk := xin_nI (show k < 1024 by omega) (by decide)
    rw [q_X1_begins_L6]
    refine ⟨fun q => absurd q (ge1024 (by omega)), fun _ => ?_⟩
    rw [nI_clamp (n := k) (by omega), nI_1, pI_eq0 (by omega)]
    have go : ∀ y, y = lN (if k = 0 then 1 else 0) → q_X1_begins_L6 P0 (d + 1) (nI (k + 1)) (vp_updL m k y) := fun y hy => ih (k + 1) _ (by omega) (fun s hs => by
      by_cases q : s = k
      · subst q; rw [upL_s]; exact hy
      · rw [upL_n q]; exact e s (by omega))
    refine ⟨fun q => ⟨xk, go 0 ?_⟩, fun q => ⟨xk, go 1 ?_⟩⟩
    · rw [if_neg q]; rfl
    · rw [if_pos q]; rfl
theorem begins_spec {c : Nat → Nat} {mcel : Nat → Int32} (hc : ∀ i, i < 36 → mcel i = cv (c i)) (hb : ∀ i, i < 36 → c i ≤ 10) {cells ways : Nat → Int64} {near : Nat → Int32} {P : (Nat → Int64) → (Nat → Int32) → Int32 → (Nat → Int64) → Prop} (h : ∀ cells' near' w', (∀ k, k < 10 → near' k = nI (ne_S c k)) → (∀ s, wi s (th_S c) → w' s = lN (rr (ne_S c) 0 s)) → P cells' near' (nI (th_S c)) w') : q_X1_begins mcel cells near ways P := by
  refine looks_spec hc hb (fun cells' near' h1 h2 => ⟨1025, ?_⟩)
  exact begins_6 (fun w' hw' => h cells' near' w' h2 (fun s hs => hw' s (wi_lt (n := 10) hs (th_lt c)))) 1024 0 ways rfl (fun s hs => absurd hs (Nat.not_lt_zero s))
theorem count_24 {n : Nat → Nat} {near : Nat → Int32} (hn : ∀ k, k < 10 → near k = nI (n k)) (hg : ∀ k, k < 10 → n k < 1024) {th t : Nat} (hth : th < 1024) (ht : t ≤ 10) {P0 : (Nat → Int64) → (Nat → Int64) → Prop} (h : ∀ w' m', (∀ s, wi s th → w' s = lN (rr n t s)) → P0 w' m') : ∀ (d k : Nat) (w m : Nat → Int64), k + d = t → (∀ s, wi s th → w s = lN (rr n k s)) → q_X1_count_L24 (nI t) near (nI th) P0 (d + 1) (nI k) w m := by
  intro d
  induction d with
  | zero =>
    intro k w m hk e
    have : k = t := by omega
    subst this
    rw [q_X1_count_L24]
    exact ⟨fun _ => h w m e, fun q => absurd (nI_le (Nat.le_refl _) (by omega)) q⟩
  | succ d ih =>
    intro k w m hk e
    rw [q_X1_count_L24]
    refine ⟨fun q => absurd q (nI_ge (by omega) (by omega)), fun _ => adds_spec hn hg hth e (fun w' m' hw' => ?_)⟩
    rw [nI_1]
    exact ih (k + 1) w' m' (by omega) hw'
theorem count_ok {c : Nat → Nat} {mcel : Nat → Int32} (hc : ∀ i, i < 36 → mcel i = cv (c i)) (hb : ∀ i, i < 36 → c i ≤ 10) {t : Nat} (ht : t ≤ 10) {cells ways more : Nat → Int64} {near : Nat → Int32} {there : Int32} {P : Int64 → (Nat → Int64) → (Nat → Int32) → Int32 → (Nat → Int64) → (Nat → Int64) → Int32 → Prop} (h : ∀ cells' near' th' w' m', P (lN (rr (ne_S c) t (th_S c))) cells' near' th' w' m' 0) : q_X1_count (nI t) mcel cells near there ways more P := by
  unfold q_X1_count
  refine in_ok (nI_pos (by omega)) (nI_nlt (a := 10) ht (by decide)) (goes_111 ⟨fun _ => ?_, fun q => absurd q (by decide)⟩)
  refine begins_spec hc hb (fun cells' near' w' h1 h2 => ⟨t + 1, ?_⟩)
  have hth := th_lt c
  refine count_24 h1 (gr_ne c).1 hth ht (fun w2 m2 h3 => ⟨xin_nI hth (by decide), ?_⟩) t 0 w' more (by omega) h2
  rw [nI_clamp (n := th_S c) (by omega), h3 _ (wi_rf _)]
  exact h _ _ _ _ _
theorem count_bad {p : Int32} (hp : p < 0 ∨ (10 : Int32) < p) {mcel : Nat → Int32} {cells ways more : Nat → Int64} {near : Nat → Int32} {there : Int32} {P : Int64 → (Nat → Int64) → (Nat → Int32) → Int32 → (Nat → Int64) → (Nat → Int64) → Int32 → Prop} (h : P 0 cells near there ways more 1) : q_X1_count p mcel cells near there ways more P :=
  in_bad hp (goes_0 ⟨fun q => absurd rfl q, fun _ => h⟩)
theorem chkN_bad {p : Int32} (h : p < 0 ∨ (10 : Int32) < p) {Q : Prop} {T : String → Prop} (ht : T "java/lang/IllegalArgumentException") : q_X0_checkNumberOfTints p Q T := by
  refine ⟨fun _ => ht, fun h1 => ⟨fun h2 => ?_, fun _ => ht⟩⟩
  rcases h with h | h
  · exact absurd h h1
  · exact (le_ltA h2 h).elim
theorem chkN_ok {t : Nat} (ht : t ≤ 10) {Q : Prop} {T : String → Prop} (h : Q) : q_X0_checkNumberOfTints (nI t) Q T := ⟨fun q => absurd q (nI_pos (by omega)), fun _ => ⟨fun _ => h, fun q => absurd (nI_le (b := 10) ht (by decide)) q⟩⟩
