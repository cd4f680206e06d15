/-! the pure side: tintings, the class -/
def fb (l : Nat) : Nat → Nat
  | 0 => 10
  | n + 1 => if fb l n < 10 then fb l n else if l.testBit n = true then n else 10
theorem low_raw : ∀ h : Fin 32, ∀ l : Fin 32, 32 * h.val + l.val = 0 ∨ (fb (32 * h.val + l.val) 10 < 10 ∧ (32 * h.val + l.val).testBit (fb (32 * h.val + l.val) 10) = true ∧ nI (32 * h.val + l.val) &&& (-(nI (32 * h.val + l.val))) = nI (2 ^ fb (32 * h.val + l.val) 10)) := by decide +kernel
theorem low_ex {l : Nat} (hl : l < 1024) (h0 : l ≠ 0) : ∃ v, v < 10 ∧ l.testBit v = true ∧ nI l &&& (-(nI l)) = nI (2 ^ v) := by
  have := low_raw ⟨l / 32, by omega⟩ ⟨l % 32, by omega⟩
  simp only [show 32 * (l / 32) + l % 32 = l from by omega] at this
  rcases this with h | h
  · exact absurd h h0
  · exact ⟨_, h⟩
/-- sums of Int64 -/
def smL (f : Nat → Int64) : Nat → Int64
  | 0 => 0
  | n + 1 => smL f n + f n
theorem smL_lN (f : Nat → Nat) : ∀ n, smL (fun i => lN (f i)) n = lN (sm f n)
  | 0 => rfl
  | n + 1 => by rw [smL, sm, smL_lN f n, lN_add]
theorem smL_cong {f g : Nat → Int64} : ∀ {n : Nat}, (∀ k, k < n → f k = g k) → smL f n = smL g n
  | 0, _ => rfl
  | n + 1, h => by rw [smL, smL, smL_cong (fun k hk => h k (by omega)), h n (by omega)]
theorem smL_same {f : Nat → Int64} {a : Nat} : ∀ {b : Nat}, a ≤ b → (∀ k, a ≤ k → k < b → f k = 0) → smL f b = smL f a
  | 0, h, _ => by rw [show a = 0 by omega]
  | b + 1, h, hz => by
    rcases Nat.lt_or_ge a (b + 1) with q | q
    · rw [smL, hz b (by omega) (by omega), smL_same (by omega) (fun k h1 h2 => hz k h1 (by omega)), Int64.add_zero]
    · rw [show a = b + 1 by omega]
def lam (w G : Nat → Int64) (n : Nat) : Int64 := smL (fun s => w s * G s) n
theorem lam_s (w G : Nat → Int64) (n : Nat) : lam w G (n + 1) = lam w G n + w n * G n := rfl
theorem lam_upd {w G : Nat → Int64} {k : Nat} {a : Int64} : ∀ {n : Nat}, k < n → lam (vp_updL w k (w k + a)) G n = lam w G n + a * G k
  | 0, h => absurd h (Nat.not_lt_zero k)
  | n + 1, h => by
    rw [lam_s, lam_s]
    rcases Nat.lt_succ_iff_lt_or_eq.mp h with h | rfl
    · rw [lam_upd h, upL_n (by omega)]
      grind
    · have e : lam (vp_updL w k (w k + a)) G k = lam w G k := smL_cong (fun s hs => by rw [upL_n (by omega)])
      rw [e, upL_s]
      grind
theorem lam_set {w G : Nat → Int64} {k : Nat} {a : Int64} : ∀ {n : Nat}, k < n → lam (vp_updL w k a) G n + w k * G k = lam w G n + a * G k
  | 0, h => absurd h (Nat.not_lt_zero k)
  | n + 1, h => by
    rw [lam_s, lam_s]
    rcases Nat.lt_succ_iff_lt_or_eq.mp h with h | rfl
    · have := lam_set (w := w) (G := G) (a := a) h
      rw [upL_n (by omega)]
      grind
    · have e : lam (vp_updL w k a) G k = lam w G k := smL_cong (fun s hs => by rw [upL_n (by omega)])
      rw [e, upL_s]
      grind
theorem lam_cong {w G H : Nat → Int64} {n : Nat} (h : ∀ s, s < n → G s = H s) : lam w G n = lam w H n := smL_cong (fun s hs => by rw [h s hs])
theorem lam_cong2 {w G H : Nat → Int64} {n : Nat} (h : ∀ s, s < n → w s = 0 ∨ G s = H s) : lam w G n = lam w H n := smL_cong (fun s hs => by
  rcases h s hs with e | e
  · rw [e, Int64.zero_mul, Int64.zero_mul]
  · rw [e])
theorem lam_mul {w G : Nat → Int64} (a : Int64) : ∀ n, a * lam w G n = lam w (fun s => a * G s) n
  | 0 => Int64.mul_zero
  | n + 1 => by
    rw [lam_s, lam_s, ← lam_mul a n]
    grind
theorem lam_0 {w G : Nat → Int64} : ∀ n, lam w G (n + 1) = w 0 * G 0 + lam w (fun s => if s = 0 then 0 else G s) (n + 1)
  | 0 => by
    rw [lam_s, lam_s]
    have e : lam w G 0 = 0 := rfl
    have e2 : lam w (fun s => if s = 0 then 0 else G s) 0 = 0 := rfl
    rw [e, e2, if_pos rfl]
    grind
  | n + 1 => by
    rw [lam_s, lam_0 n, lam_s w _ (n + 1), if_neg (by omega)]
    grind
theorem lam_one {G : Nat → Int64} {k : Nat} : ∀ {n : Nat}, k < n → lam (vp_updL (fun _ => 0) k 1) G n = G k := fun {n} h => by
  have := lam_set (w := fun _ => 0) (G := G) (a := 1) h
  have z : ∀ n, lam (fun _ => 0) G n = 0 := fun n => by
    have : lam (fun _ => 0) G n = smL (fun _ => 0) n := smL_cong (fun s _ => Int64.zero_mul)
    rw [this]
    exact (smL_same (a := 0) (by omega) (fun _ _ _ => rfl))
  rw [z n] at this
  grind
/-- one country's set without neighbours more is taken from what is left -/
def so1 (n : Nat → Nat) (v m : Nat) (G : Nat → Int64) (A : Nat) : Int64 := if (decide (mi A m = 0) && idb n (A ||| 2 ^ v)) = true then G (mi m A) else 0
theorem share_21 {n : Nat → Nat} {F : Nat → Int32} (hF : ∀ s, s < 1024 → (¬ F s = 0 ↔ idb n s = true)) {v m : Nat} (hv : v < 10) (hm : m < 1024) {a : Int64} {P0 P1 : (Nat → Int64) → Prop} : ∀ (x : Nat), wi x m → ∀ (j : Nat) (w : Nat → Int64), j + x < 1024 → (∀ w', (∀ G, lam w' G 1024 = lam w G 1024 + a * smL (so1 n v m G) (x + 1)) → P1 w') → ∃ fu, q_X0_shareOutFrom_L21 a (nI (2 ^ v)) (nI m) F P0 P1 fu (nI x) (nI j) w := by
  have hp := pow_lt10 hv
  intro x
  induction x using Nat.strongRecOn with
  | ind x ih =>
    intro hx j w hj h
    have hx2 : x < 1024 := by omega
    have ho : 2 ^ v ||| x < 1024 := or_lt (n := 10) hp hx2
    have hmx : mi m x < 1024 := mi_lt (n := 10) hm
    have xm := xin_nI hmx (by decide)
    have mx0 : mi x m = 0 := (wi_mi hx2).mp hx
    have Fo := hF _ ho
    rw [Nat.or_comm] at Fo
    have step : ∀ (w1 : Nat → Int64), (∀ G, lam w1 G 1024 = lam w G 1024 + a * so1 n v m G x) → ∃ fu, ((¬ nI x = (0 : Int32) → xl ((nI x - (1 : Int32)) &&& nI m) (fun y5 => q_X0_shareOutFrom_L21 a (nI (2 ^ v)) (nI m) F P0 P1 fu y5 (nI j + (1 : Int32)) w1)) ∧ (nI x = (0 : Int32) → P1 w1)) := fun w1 hw1 => by
      rcases Nat.eq_zero_or_pos x with e0 | e0
      · refine ⟨0, fun q => absurd (by rw [e0]; rfl) q, fun _ => h w1 (fun G => ?_)⟩
        rw [hw1 G, e0, smL, smL, Int64.zero_add]
      · have hlt : (x - 1) &&& m < x := Nat.lt_of_le_of_lt Nat.and_le_left (by omega)
        obtain ⟨fu, hfu⟩ := ih ((x - 1) &&& m) hlt (wi_and_r _ _) (j + 1) w1 (by omega) (fun w' hw' => h w' (fun G => by
          have e : smL (so1 n v m G) x = smL (so1 n v m G) ((x - 1 &&& m) + 1) := smL_same (by omega) (fun k h1 h2 => by
            unfold so1
            rw [if_neg (fun z => ?_)]
            rw [Bool.and_eq_true, decide_eq_true_iff] at z
            have := sub_le x k m hx ((wi_mi (show k < 1024 by omega)).mpr z.1) h2
            omega)
          rw [hw' G, hw1 G, show smL (so1 n v m G) (x + 1) = smL (so1 n v m G) x + so1 n v m G x from rfl, e]
          grind))
        refine ⟨fu, fun _ => xl_i ?_, fun q => absurd q (nI_ne0 e0 (by omega))⟩
        rw [nI_sub1 e0, pI_and, nI_1]
        exact hfu
    by_cases hid : idb n (x ||| 2 ^ v) = true
    · obtain ⟨fu, hfu⟩ := step (vp_updL w (mi m x) (w (mi m x) + a)) (fun G => by
        rw [lam_upd hmx]
        unfold so1
        rw [decide_eq_true mx0, hid, Bool.true_and, if_pos rfl])
      refine ⟨fu + 1, ?_⟩
      rw [q_X0_shareOutFrom_L21]
      refine ⟨fun q => absurd q (ge1024 (by omega)), fun _ => ?_⟩
      rw [pI_or]
      refine ⟨xin_nI ho (by decide), xj1_i (vp_updL w (mi m x) (w (mi m x) + a)) (fun J hJ => ?_) hfu⟩
      rw [nI_clamp (n := 2 ^ v ||| x) (by omega), Nat.or_comm, pI_mi, nI_clamp (n := mi m x) (by omega)]
      exact ⟨fun q => absurd q (Fo.mpr hid), fun _ => ⟨xm, xm, hJ⟩⟩
    · obtain ⟨fu, hfu⟩ := step w (fun G => by
        unfold so1
        rw [bfalse hid, Bool.and_false, if_neg (by decide), Int64.mul_zero, Int64.add_zero])
      refine ⟨fu + 1, ?_⟩
      rw [q_X0_shareOutFrom_L21]
      refine ⟨fun q => absurd q (ge1024 (by omega)), fun _ => ?_⟩
      rw [pI_or]
      refine ⟨xin_nI ho (by decide), xj1_i w (fun J hJ => ?_) hfu⟩
      rw [nI_clamp (n := 2 ^ v ||| x) (by omega), Nat.or_comm]
      exact ⟨fun _ => hJ, fun q => absurd (Fo.mp q) hid⟩
/-- the lowest country of those left -/
def lv0 (l : Nat) : Nat := fb l 10
def T1 (n : Nat → Nat) (G : Nat → Int64) (l : Nat) : Int64 := smL (so1 n (lv0 l) (mi l (2 ^ lv0 l)) G) 1024
theorem lv0_spec {l : Nat} (hl : l < 1024) (h0 : l ≠ 0) : lv0 l < 10 ∧ l.testBit (lv0 l) = true ∧ nI l &&& (-(nI l)) = nI (2 ^ lv0 l) := by
  have := low_raw ⟨l / 32, by omega⟩ ⟨l % 32, by omega⟩
  simp only [show 32 * (l / 32) + l % 32 = l from by omega] at this
  rcases this with h | h
  · exact absurd h h0
  · exact h
theorem share_from {n : Nat → Nat} {F : Nat → Int32} (hF : ∀ s, s < 1024 → (¬ F s = 0 ↔ idb n s = true)) {l : Nat} (hl : l < 1024) (h0 : l ≠ 0) {a : Int64} {w : Nat → Int64} {P : (Nat → Int64) → Prop} (h : ∀ w', (∀ G, lam w' G 1024 = lam w G 1024 + a * T1 n G l) → P w') : q_X0_shareOutFrom (nI l) a F w P := by
  obtain ⟨hv, hb, e⟩ := lv0_spec hl h0
  unfold q_X0_shareOutFrom
  rw [e]
  refine xl_i (xl_i ?_)
  rw [pI_mi]
  have hm : mi l (2 ^ lv0 l) < 1024 := mi_lt (n := 10) hl
  refine share_21 hF hv hm (mi l (2 ^ lv0 l)) (wi_rf _) 0 w (by omega) (fun w' hw' => h w' (fun G => ?_))
  rw [hw' G]
  congr 2
  unfold T1
  refine (smL_same (by omega) (fun k h1 h2 => ?_)).symm
  unfold so1
  rw [if_neg (fun z => ?_)]
  rw [Bool.and_eq_true, decide_eq_true_iff] at z
  have := wi_le ((wi_mi h2).mpr z.1)
  omega
theorem T1_low {n : Nat → Nat} {G H : Nat → Int64} {l : Nat} (hl : l < 1024) (h0 : l ≠ 0) (h : ∀ s, s < l → G s = H s) : T1 n G l = T1 n H l := by
  obtain ⟨hv, hb, e⟩ := lv0_spec hl h0
  unfold T1
  refine smL_cong fun A hA => ?_
  unfold so1
  split
  · have h1 : mi (mi l (2 ^ lv0 l)) A ≤ mi l (2 ^ lv0 l) := mi_le _ _
    have h2 : mi l (2 ^ lv0 l) ≤ l := mi_le _ _
    have h3 : mi l (2 ^ lv0 l) ≠ l := fun q => by
      have := congrArg (fun x : Nat => x.testBit (lv0 l)) q
      simp only [mp_bit, hb, decide_true, Bool.not_true, Bool.and_false] at this
      cases this
    exact h _ (by omega)
  · rfl
theorem share_9 {n : Nat → Nat} {F : Nat → Int32} (hF : ∀ s, s < 1024 → (¬ F s = 0 ↔ idb n s = true)) {P0 : (Nat → Int64) → Prop} : ∀ (d l : Nat) (w : Nat → Int64), l + d = 1024 → 1 ≤ l → (∀ w', (∀ g, lam w' g 1024 = lam w (fun s => if s < l then g s else T1 n g s) 1024) → P0 w') → q_X0_shareOutOneSet_L9 F P0 (d + 1) (nI l) w := by
  intro d
  induction d with
  | zero =>
    intro l w hd h1 h
    have : l = 1024 := by omega
    subst this
    rw [q_X0_shareOutOneSet_L9]
    exact ⟨fun _ => h w (fun g => lam_cong (fun s hs => by rw [if_pos hs])), fun q => absurd (by decide) q⟩
  | succ d ih =>
    intro l w hd h1 h
    have hl : l < 1024 := by omega
    have xl1 := xin_nI hl (by decide)
    rw [q_X0_shareOutOneSet_L9]
    refine ⟨fun q => absurd q (ge1024 hl), fun _ => ⟨xl1, xl_i ?_⟩⟩
    rw [nI_clamp (n := l) (by omega), pcmp, nI_1]
    refine ⟨fun q => ih (l + 1) w (by omega) (by omega) (fun w' hw' => h w' (fun g => ?_)), fun _ => ⟨xl1, share_from hF hl (by omega) (fun w1 hw1 => ih (l + 1) w1 (by omega) (by omega) (fun w' hw' => h w' (fun g => ?_)))⟩⟩
    · rw [hw' g]
      refine lam_cong2 fun s hs => ?_
      by_cases e : s = l
      · subst e; exact Or.inl q
      · refine Or.inr ?_
        by_cases z : s < l
        · rw [if_pos z, if_pos (by omega)]
        · rw [if_neg z, if_neg (by omega)]
    · rw [hw' g, hw1]
      have e1 : T1 n (fun s => if s < l + 1 then g s else T1 n g s) l = T1 n g l := T1_low hl (by omega) (fun s hs => by rw [if_pos (by omega)])
      rw [e1]
      have e2 := lam_set (w := w) (G := fun s => if s < l then g s else T1 n g s) (k := l) (a := 0) hl
      simp only [Nat.lt_irrefl, if_false, Int64.zero_mul, Int64.add_zero] at e2
      rw [← e2]
      refine congrArg (fun z => z + w l * T1 n g l) (lam_cong2 fun s hs => ?_)
      by_cases e : s = l
      · subst e; exact Or.inl upL_s
      · refine Or.inr ?_
        by_cases z : s < l
        · rw [if_pos z, if_pos (by omega)]
        · rw [if_neg z, if_neg (by omega)]
theorem share_spec {n : Nat → Nat} {F : Nat → Int32} (hF : ∀ s, s < 1024 → (¬ F s = 0 ↔ idb n s = true)) {w : Nat → Int64} {P : (Nat → Int64) → Prop} (h : ∀ w', (∀ g, lam w' g 1024 = lam w (fun s => if s = 0 then 0 else T1 n g s) 1024) → P w') : q_X0_shareOutOneSet F w P := by
  refine ⟨xin_nI (k := 0) (by decide) (by decide), 1024, ?_⟩
  rw [show (0 : Int32).toNatClampNeg = 0 from rfl]
  refine share_9 hF 1023 1 _ rfl (Nat.le_refl _) (fun w' hw' => h w' (fun g => ?_))
  rw [hw' g]
  have e2 := lam_set (w := w) (G := fun s => if s = 0 then 0 else T1 n g s) (k := 0) (a := 0) (n := 1024) (by decide)
  rw [if_pos rfl, Int64.mul_zero, Int64.mul_zero, Int64.add_zero, Int64.add_zero] at e2
  rw [← e2]
  refine lam_cong2 fun s hs => ?_
  by_cases e : s = 0
  · subst e; exact Or.inl upL_s
  · exact Or.inr (by rw [if_neg (by omega), if_neg e])
theorem T1_rr {n : Nat → Nat} {t l : Nat} (hl : l < 1024) (h0 : l ≠ 0) : lN (t + 1) * T1 n (fun s => lN (rr n t s)) l = lN (rr n (t + 1) l) := by
  obtain ⟨hv, hb, e⟩ := lv0_spec hl h0
  rw [rr_first n hv t l hb, ← lN_mul]
  congr 1
  unfold T1 tt
  rw [← sb_lin, ← smL_lN]
  refine smL_cong fun A hA => ?_
  unfold so1
  rw [mi_or l A, mi_sw l A]
  by_cases a : mi A (mi l (2 ^ lv0 l)) = 0
  · rw [decide_eq_true a, Bool.true_and, if_pos a]
    by_cases b : idb n (A ||| 2 ^ lv0 l) = true
    · rw [if_pos b, if_pos b]
    · rw [if_neg b, if_neg b]; rfl
  · rw [decide_eq_false a, Bool.false_and, if_neg a, if_neg (by decide)]; rfl
theorem rr_e {n : Nat → Nat} : ∀ t, rr n t 0 = 1
  | 0 => rfl
  | t + 1 => by
    have e : ∀ (k : Nat) (h : Nat → Nat), sb 0 k h = h 0 := fun k h => by
      induction k with
      | zero => rfl
      | succ k ih => rw [sb, Nat.zero_testBit, if_neg (by decide), ih, Nat.add_zero]
    rw [rr, e, if_pos ((idb_iff (by decide)).mpr (fun i j _ _ a => by rw [Nat.zero_testBit] at a; cases a))]
    exact rr_e t
theorem rr_0 {n : Nat → Nat} {S : Nat} (h : S ≠ 0) : rr n 0 S = 0 := if_neg h
theorem pI_sub {a b : Nat} (h : b ≤ a) : nI a - nI b = nI (a - b) := by
  have e : nI a = nI (a - b) + nI b := by rw [nI_add, Nat.sub_add_cancel h]
  rw [e]
  exact Int32.add_sub_cancel ..
theorem tint_45 {n : Nat → Nat} {F : Nat → Int32} (hF : ∀ s, s < 1024 → (¬ F s = 0 ↔ idb n s = true)) {t : Nat} (ht : t ≤ 10) {r : Int64} {P0 : Int64 → (Nat → Int64) → Prop} (h : ∀ w, P0 r w) : ∀ (d k : Nat) (x y : Int64) (w : Nat → Int64), k + d = t → x + y * lam w (fun s => if s = 0 then 0 else lN (rr n d s)) 1024 = r → q_X0_tintings_L45 (nI t) F P0 (d + 1) x y (nI k) w := by
  intro d
  induction d with
  | zero =>
    intro k x y w hk e
    have : k = t := by omega
    subst this
    rw [q_X0_tintings_L45]
    have z : lam w (fun s => if s = 0 then 0 else lN (rr n 0 s)) 1024 = 0 := by
      have : lam w (fun s => if s = 0 then 0 else lN (rr n 0 s)) 1024 = smL (fun _ => 0) 1024 := smL_cong (fun s _ => by
        show w s * (if s = 0 then 0 else lN (rr n 0 s)) = 0
        by_cases q : s = 0
        · rw [if_pos q, Int64.mul_zero]
        · rw [if_neg q, rr_0 q]; exact Int64.mul_zero)
      rw [this]
      exact smL_same (a := 0) (by decide) (fun _ _ _ => rfl)
    rw [z, Int64.mul_zero, Int64.add_zero] at e
    rw [e]
    exact ⟨fun _ => h w, fun q => absurd (nI_le (Nat.le_refl _) (by omega)) q⟩
  | succ d ih =>
    intro k x y w hk e
    rw [q_X0_tintings_L45]
    refine ⟨fun q => absurd q (nI_ge (by omega) (by omega)), fun _ => ⟨fun q => absurd q (ge10 (by omega)), fun _ => xl_i ?_⟩⟩
    rw [pI_sub (by omega), nI_l (by omega), show t - k = d + 1 by omega, nI_1]
    refine share_spec hF (fun w' hw' => ⟨xin_nI (k := 0) (by decide) (by decide), xl_i ?_⟩)
    rw [show (0 : Int32).toNatClampNeg = 0 from rfl]
    refine ih (k + 1) _ _ w' (by omega) ?_
    have h1 := hw' (fun s => lN (rr n d s))
    rw [lam_0 (w := w') (G := fun s => lN (rr n d s)) 1023, rr_e] at h1
    have h2 := lam_mul (w := w) (G := fun s => if s = 0 then 0 else T1 n (fun s => lN (rr n d s)) s) (lN (d + 1)) 1024
    have h3 : lam w (fun s => lN (d + 1) * (if s = 0 then 0 else T1 n (fun s => lN (rr n d s)) s)) 1024 = lam w (fun s => if s = 0 then 0 else lN (rr n (d + 1) s)) 1024 := lam_cong (fun s hs => by
      by_cases q : s = 0
      · rw [if_pos q, if_pos q, Int64.mul_zero]
      · rw [if_neg q, if_neg q, T1_rr hs q])
    rw [← e, ← h3, ← h2, ← h1, show lN 1 = (1 : Int64) from rfl]
    generalize lam w' (fun s => if s = 0 then 0 else lN (rr n d s)) 1024 = z
    generalize w' 0 = z0
    generalize lN (d + 1) = dd
    grind
theorem fill_6 {P0 : (Nat → Int64) → Prop} (h : ∀ m', (∀ s, s < 1024 → m' s = 0) → P0 m') : ∀ (d k : Nat) (m : Nat → Int64), k + d = 1024 → (∀ s, s < k → m s = 0) → q_J7_fill_d0a16_L6 0 (nI 1024) P0 (d + 1) (nI k) m := by
  intro d
  induction d with
  | zero =>
    intro k m hk e
    have : k = 1024 := by omega
    subst this
    rw [q_J7_fill_d0a16_L6]
    exact ⟨fun _ => h m e, fun q => absurd (nI_le (Nat.le_refl _) (by decide)) q⟩
  | succ d ih =>
    intro k m hk e
    rw [q_J7_fill_d0a16_L6]
    refine ⟨fun q => absurd q (nI_ge (by omega) (by decide)), fun _ => ⟨xin_nI (by omega) (by decide), ?_⟩⟩
    rw [nI_clamp (n := k) (by omega), nI_1]
    refine ih (k + 1) _ (by omega) (fun s hs => ?_)
    by_cases q : s = k
    · subst q; exact upL_s
    · rw [upL_n q]; exact e s (by omega)
theorem X0_tintings_ok {n : Nat → Nat} (g : Gr n) {near : Nat → Int32} (hn : ∀ k, k < 10 → near k = nI (n k)) {th t : Nat} (hth : th < 1024) (ht : t ≤ 10) {fits : Nat → Int32} {ways : Nat → Int64} {P : Int64 → (Nat → Int32) → (Nat → Int64) → Prop} {T : String → Prop} (h : ∀ F w, P (lN (rr n t th)) F w) : q_X0_tintings (nI t) (nI th) near fits ways P T := by
  unfold q_X0_tintings
  refine chkN_ok ht (markSetsWithoutNeighbours_spec g hn (fun F hF => xl_i ⟨1025, fill_6 (fun w hw => ⟨xin_nI hth (by decide), ?_⟩) 1024 0 ways rfl (fun s hs => absurd hs (Nat.not_lt_zero s))⟩))
  rw [nI_clamp (n := th) (by omega), pI_eq0 (by omega)]
  have e : ∀ G, lam (vp_updL w th 1) G 1024 = G th := fun G => by
    rw [← lam_one (G := G) hth]
    refine smL_cong fun s hs => ?_
    by_cases q : s = th
    · subst q; rw [upL_s, upL_s]
    · rw [upL_n q, upL_n q, hw s hs]
  refine xj1_i (lN (if th = 0 then 1 else 0)) (fun J hJ => ?_) ⟨t + 1, tint_45 hF ht (r := lN (rr n t th)) (fun w => h F w) t 0 _ _ _ (by omega) ?_⟩
  · refine ⟨fun q => ?_, fun q => ?_⟩
    · rw [if_neg q] at hJ; exact hJ
    · rw [if_pos q] at hJ; exact hJ
  · rw [e, Int64.one_mul]
    by_cases q : th = 0
    · rw [if_pos q, if_pos q, q, rr_e, Int64.add_zero]
    · rw [if_neg q, if_neg q]; exact Int64.zero_add _
