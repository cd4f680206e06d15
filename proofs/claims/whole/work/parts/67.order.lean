/-! the pure side: tintInOrder -/
def LF (N : Nat) (t : Nat → Nat) (f : Nat) : Prop := 1 ≤ f ∧ f ≤ 10 ∧ ¬ taken N t f ∧ ∀ v, 1 ≤ v → v < f → taken N t v
noncomputable def lfv (N : Nat) (t : Nat → Nat) : Nat := @Classical.epsilon Nat ⟨0⟩ (LF N t)
theorem lfv_spec {N : Nat} {t : Nat → Nat} (h9 : ct N.testBit 10 ≤ 9) : LF N t (lfv N t) := by
  obtain ⟨f, h⟩ := lf_ex (t := t) h9
  exact @Classical.epsilon_spec Nat (LF N t) ⟨f, h⟩
theorem X0_lf {N f : Nat} {t : Nat → Nat} {worn : Nat → Int32} (hw : ∀ k, k < 10 → worn k = nI (t k)) (hb : ∀ k, k < 10 → t k ≤ 10) (h : LF N t f) {P : Int32 → Prop} (hp : P (nI f)) : q_X0_leastFreeBeside (nI N) worn P := ⟨10, X0_free_L hw hb h.2.1 h.2.2.1 h.2.2.2 hp 9 1 (by omega) h.1 rfl⟩
theorem X1_lf {N f : Nat} (hN : N < 1024) {t : Nat → Nat} {tint : Nat → Int32} (hw : ∀ k, k < 10 → tint k = nI (t k)) (hb : ∀ k, k < 10 → t k ≤ 10) (h : LF N t f) {P : Int32 → Prop} (hp : P (nI f)) : q_X1_least (nI N) tint P := X1_free_L hN hw hb h.2.1 h.2.2.1 h.2.2.2 hp (f - 1) 1 10 0 (by omega) (by have := h.1; omega) rfl (fun j hj => absurd hj (by omega))
/-- countries that are there and aren't tinted yet have no tint -/
def clr (S D : Nat) (t : Nat → Nat) : Nat → Nat := fun j => if (S.testBit j && !D.testBit j) = true then 0 else t j
theorem clr_le {S D : Nat} {t : Nat → Nat} (hb : ∀ k, k < 10 → t k ≤ 10) : ∀ k, k < 10 → clr S D t k ≤ 10 := fun k hk => by
  unfold clr
  split
  · omega
  · exact hb k hk
theorem LF_clr {N S D f : Nat} {t : Nat → Nat} (hN : ∀ i, i < 10 → N.testBit i = true → S.testBit i = true) (h : LF (N &&& D) t f) : LF N (clr S D t) f := by
  have key : ∀ v, 1 ≤ v → (taken N (clr S D t) v ↔ taken (N &&& D) t v) := fun v hv => by
    constructor
    · rintro ⟨j, hj, a, b⟩
      unfold clr at b
      rw [hN j hj a, Bool.true_and] at b
      cases q : D.testBit j with
      | false => rw [q, if_pos (by decide)] at b; omega
      | true =>
        rw [q, if_neg (by decide)] at b
        exact ⟨j, hj, by rw [Nat.testBit_and, a, q]; rfl, b⟩
    · rintro ⟨j, hj, a, b⟩
      rw [Nat.testBit_and, Bool.and_eq_true] at a
      refine ⟨j, hj, a.1, ?_⟩
      unfold clr
      rw [a.2, Bool.not_true, Bool.and_false, if_neg (by decide)]
      exact b
  exact ⟨h.1, h.2.1, fun q => h.2.2.1 ((key f h.1).mp q), fun v h1 h2 => (key v h1).mpr (h.2.2.2 v h1 h2)⟩
/-- countries tinted one after the other -/
noncomputable def wkT (n : Nat → Nat) : List Nat → Nat → (Nat → Nat) → (Nat → Nat)
  | [], _, t => t
  | k :: l, D, t => wkT n l (D ||| 2 ^ k) (fun j => if j = k then lfv (n k &&& D) t else t j)
noncomputable def wkM (n : Nat → Nat) : List Nat → Nat → (Nat → Nat) → Nat → Nat
  | [], _, _, m => m
  | k :: l, D, t, m => wkM n l (D ||| 2 ^ k) (fun j => if j = k then lfv (n k &&& D) t else t j) (max m (lfv (n k &&& D) t))
def ds : List Nat → Nat → Nat
  | [], D => D
  | k :: l, D => ds l (D ||| 2 ^ k)
theorem ds_bit {i : Nat} : ∀ (l : List Nat) (D : Nat), (ds l D).testBit i = true ↔ D.testBit i = true ∨ i ∈ l
  | [], D => by simp [ds]
  | k :: l, D => by
    rw [ds, ds_bit l, orp_bit, Bool.or_eq_true, decide_eq_true_iff, List.mem_cons]
    constructor
    · rintro ((h | h) | h)
      · exact Or.inl h
      · exact Or.inr (Or.inl h.symm)
      · exact Or.inr (Or.inr h)
    · rintro (h | h | h)
      · exact Or.inl (Or.inl h)
      · exact Or.inl (Or.inr h.symm)
      · exact Or.inr h
theorem wkT_app (n : Nat → Nat) (l2 : List Nat) : ∀ (l1 : List Nat) (D : Nat) (t : Nat → Nat), wkT n (l1 ++ l2) D t = wkT n l2 (ds l1 D) (wkT n l1 D t)
  | [], _, _ => rfl
  | k :: l1, D, t => wkT_app n l2 l1 _ _
theorem wkM_app (n : Nat → Nat) (l2 : List Nat) : ∀ (l1 : List Nat) (D : Nat) (t : Nat → Nat) (m : Nat), wkM n (l1 ++ l2) D t m = wkM n l2 (ds l1 D) (wkT n l1 D t) (wkM n l1 D t m)
  | [], _, _, _ => rfl
  | k :: l1, D, t, m => wkM_app n l2 l1 _ _ _
theorem wkM_max (n : Nat → Nat) : ∀ (l : List Nat) (D : Nat) (t : Nat → Nat) (m : Nat), wkM n l D t m = max m (wkM n l D t 0)
  | [], _, _, m => (Nat.max_zero m).symm
  | k :: l, D, t, m => by
    rw [wkM, wkM, wkM_max n l _ _ (max m _), wkM_max n l _ _ (max 0 _), Nat.zero_max, Nat.max_assoc]
theorem up10 {t : Nat → Nat} {k f : Nat} (hb : ∀ j, j < 10 → t j ≤ 10) (hf : f ≤ 10) : ∀ j, j < 10 → (fun j => if j = k then f else t j) j ≤ 10 := fun j hj => by
  show (if j = k then f else t j) ≤ 10
  split
  · exact hf
  · exact hb j hj
theorem and9 {N D : Nat} (h : ct N.testBit 10 ≤ 9) : ct (N &&& D).testBit 10 ≤ 9 := Nat.le_trans (ct_sub (fun k _ a => by rw [Nat.testBit_and, Bool.and_eq_true] at a; exact a.1)) h
theorem wk_le {n : Nat → Nat} (h9 : ∀ k, k < 10 → ct (n k).testBit 10 ≤ 9) : ∀ (l : List Nat), (∀ j, j ∈ l → j < 10) → ∀ (D : Nat) (t : Nat → Nat) (m : Nat), (∀ j, j < 10 → t j ≤ 10) → m ≤ 10 → (∀ j, j < 10 → wkT n l D t j ≤ 10) ∧ wkM n l D t m ≤ 10
  | [], _, _, _, _, hb, hm => ⟨hb, hm⟩
  | k :: l, hl, D, t, m, hb, hm => by
    have hf := lfv_spec (t := t) (and9 (D := D) (h9 k (hl k List.mem_cons_self)))
    exact wk_le h9 l (fun j hj => hl j (List.mem_cons_of_mem _ hj)) (D ||| 2 ^ k) _ (max m (lfv (n k &&& D) t)) (up10 hb hf.2.1) (by have := hf.2.1; omega)
/-- the members of a set, by their numbers -/
def lst (p : Nat → Bool) : Nat → Nat → List Nat
  | 0, _ => []
  | d + 1, k => if p k = true then k :: lst p d (k + 1) else lst p d (k + 1)
theorem lst_mem {p : Nat → Bool} {j : Nat} : ∀ (d k : Nat), j ∈ lst p d k ↔ k ≤ j ∧ j < k + d ∧ p j = true
  | 0, k => by
    simp [lst]
    omega
  | d + 1, k => by
    rw [lst]
    by_cases q : p k = true
    · rw [if_pos q, List.mem_cons, lst_mem d (k + 1)]
      constructor
      · rintro (h | ⟨h1, h2, h3⟩)
        · subst h; exact ⟨Nat.le_refl _, by omega, q⟩
        · exact ⟨by omega, by omega, h3⟩
      · rintro ⟨h1, h2, h3⟩
        by_cases e : j = k
        · exact Or.inl e
        · exact Or.inr ⟨by omega, by omega, h3⟩
    · rw [if_neg q, lst_mem d (k + 1)]
      constructor
      · rintro ⟨h1, h2, h3⟩
        exact ⟨by omega, by omega, h3⟩
      · rintro ⟨h1, h2, h3⟩
        refine ⟨?_, by omega, h3⟩
        by_cases e : j = k
        · rw [e] at h3; exact absurd h3 q
        · omega
theorem lst_pw {p : Nat → Bool} {R : Nat → Nat → Prop} (hR : ∀ i j, p i = true → p j = true → i < j → R i j) : ∀ (d k : Nat), (lst p d k).Pairwise R
  | 0, _ => List.Pairwise.nil
  | d + 1, k => by
    rw [lst]
    by_cases q : p k = true
    · rw [if_pos q]
      refine List.Pairwise.cons (fun j hj => ?_) (lst_pw hR d (k + 1))
      have := (lst_mem d (k + 1)).mp hj
      exact hR k j q this.2.2 (by omega)
    · rw [if_neg q]
      exact lst_pw hR d (k + 1)
section ORD
variable {n : Nat → Nat} {near : Nat → Int32} {S : Nat}
theorem give_L (hn : ∀ k, k < 10 → near k = nI (n k)) (h9 : ∀ k, k < 10 → ct (n k).testBit 10 ≤ 9) (hnS : ∀ k i, k < 10 → i < 10 → (n k).testBit i = true → S.testBit i = true) {s : Nat} {P0 : Int32 → (Nat → Int32) → Prop} : ∀ (d k : Nat) (D : Nat) (t : Nat → Nat) (m : Nat) (worn : Nat → Int32), k + d = 10 → m ≤ 10 → (∀ j, j < 10 → t j ≤ 10) → (∀ j, j < 10 → worn j = nI (clr S D t j)) → (∀ w', (∀ j, j < 10 → w' j = nI (clr S (ds (lst s.testBit d k) D) (wkT n (lst s.testBit d k) D t) j)) → P0 (nI (wkM n (lst s.testBit d k) D t m)) w') → q_X0_giveLeastFree_L4 (nI s) near P0 (d + 1) (nI m) (nI k) worn := by
  intro d
  induction d with
  | zero =>
    intro k D t m worn hk hm hb hw h
    have : k = 10 := by omega
    subst this
    rw [q_X0_giveLeastFree_L4]
    exact ⟨fun _ => h worn hw, fun q => absurd (by decide) q⟩
  | succ d ih =>
    intro k D t m worn hk hm hb hw h
    have hk2 : k < 10 := by omega
    have xk := xin_nI hk2 (by decide)
    rw [q_X0_giveLeastFree_L4]
    refine ⟨fun q => absurd q (ge10 hk2), fun _ => has_spec hk2 (fun q => ⟨fun _ => ?_, fun z => absurd rfl z⟩) (fun q => ⟨fun z => absurd z (by decide), fun _ => ⟨xk, ?_⟩⟩)⟩
    · rw [nI_1]
      refine ih (k + 1) D t m worn (by omega) hm hb hw (fun w' hw' => ?_)
      rw [lst, if_neg (by rw [q]; decide)] at h
      exact h w' hw'
    · rw [nI_clamp (n := k) (by omega), hn k hk2]
      have hf := lfv_spec (t := t) (and9 (D := D) (h9 k hk2))
      refine X0_lf hw (clr_le hb) (LF_clr (fun i hi a => hnS k i hk2 hi a) hf) ⟨xk, xk, xl_i ?_⟩
      have hf10 := hf.2.1
      rw [upI_s, xmax_nI (by omega) (by omega), nI_1]
      rw [lst, if_pos q] at h
      refine ih (k + 1) (D ||| 2 ^ k) (fun j => if j = k then lfv (n k &&& D) t else t j) (max m (lfv (n k &&& D) t)) _ (by omega) (by omega) (up10 hb hf10) (fun j hj => ?_) h
      by_cases z : j = k
      · subst z
        rw [upI_s]
        unfold clr
        rw [orp_bit, decide_eq_true rfl, Bool.or_true, Bool.not_true, Bool.and_false, if_neg (by decide)]
        exact congrArg nI (if_pos rfl).symm
      · rw [upI_n z, hw j hj]
        unfold clr
        dsimp only
        rw [orp_bit, decide_eq_false (Ne.symm z), Bool.or_false, if_neg z]
theorem clear_L {t : Nat → Nat} {P0 : (Nat → Int32) → Prop} (h : ∀ w', (∀ j, j < 10 → w' j = nI (clr S 0 t j)) → P0 w') : ∀ (d k : Nat) (worn : Nat → Int32), k + d = 10 → (∀ j, j < 10 → worn j = nI (if j < k then clr S 0 t j else t j)) → q_X0_tintInOrder_L2 (nI S) P0 (d + 1) (nI k) worn := by
  intro d
  induction d with
  | zero =>
    intro k worn hk e
    have : k = 10 := by omega
    subst this
    rw [q_X0_tintInOrder_L2]
    exact ⟨fun _ => h worn (fun j hj => by rw [e j hj, if_pos hj]), fun q => absurd (by decide) q⟩
  | succ d ih =>
    intro k worn hk e
    have hk2 : k < 10 := by omega
    rw [q_X0_tintInOrder_L2]
    refine ⟨fun q => absurd q (ge10 hk2), fun _ => has_spec hk2 (fun q => ⟨fun _ => ?_, fun z => absurd rfl z⟩) (fun q => ⟨fun z => absurd z (by decide), fun _ => ⟨xin_nI hk2 (by decide), ?_⟩⟩)⟩
    · rw [nI_1]
      refine ih (k + 1) worn (by omega) (fun j hj => ?_)
      rw [e j hj]
      by_cases z : j < k
      · rw [if_pos z, if_pos (by omega)]
      · rw [if_neg z]
        by_cases y : j = k
        · subst y
          rw [if_pos (by omega)]
          unfold clr
          rw [q, Bool.false_and, if_neg (by decide)]
        · rw [if_neg (by omega)]
    · rw [nI_clamp (n := k) (by omega), nI_1]
      refine ih (k + 1) _ (by omega) (fun j hj => ?_)
      by_cases y : j = k
      · subst y
        rw [upI_s, if_pos (by omega)]
        unfold clr
        rw [q, Nat.zero_testBit, if_pos (by decide)]
        rfl
      · rw [upI_n y, e j hj]
        by_cases z : j < k
        · rw [if_pos z, if_pos (by omega)]
        · rw [if_neg z, if_neg (by omega)]
/-- with so many neighbours -/
def wn (n : Nat → Nat) (S v : Nat) : Nat := so (fun k => S.testBit k && decide (pc (n k) = v)) 10
theorem wn_bit {v k : Nat} (hk : k < 10) : (wn n S v).testBit k = (S.testBit k && decide (pc (n k) = v)) := by
  unfold wn
  rw [so_bit, decide_eq_true hk, Bool.true_and]
theorem with_L (hn : ∀ k, k < 10 → near k = nI (n k)) (hg : ∀ k, k < 10 → n k < 1024) {v : Nat} (hv : v < 10) {P0 : Int32 → Prop} (h : P0 (nI (wn n S v))) : ∀ (d k : Nat), k + d = 10 → q_X0_withNeighbours_L4 (nI v) (nI S) near P0 (d + 1) (nI (so (fun k => S.testBit k && decide (pc (n k) = v)) k)) (nI k) := by
  intro d
  induction d with
  | zero =>
    intro k hk
    have : k = 10 := by omega
    subst this
    rw [q_X0_withNeighbours_L4]
    exact ⟨fun _ => h, fun q => absurd (by decide) q⟩
  | succ d ih =>
    intro k hk
    have hk2 : k < 10 := by omega
    have := ih (k + 1) (by omega)
    have hp := pc_10 (hg k hk2)
    rw [q_X0_withNeighbours_L4]
    refine ⟨fun q => absurd q (ge10 hk2), fun _ => has_spec hk2 (fun q => ⟨fun _ => ?_, fun z => absurd rfl z⟩) (fun q => ⟨fun z => absurd z (by decide), fun _ => ⟨xin_nI hk2 (by decide), ?_⟩⟩)⟩
    · rw [so_s_f (by rw [q, Bool.false_and])] at this
      rw [nI_1]; exact this
    · rw [nI_clamp (n := k) (by omega), hn k hk2]
      refine J6_spec (hg k hk2) ?_
      rw [nI_eq (by omega) (by omega), nI_1]
      refine ⟨fun z => ?_, fun z => xl_i ?_⟩
      · rw [so_s_f (by rw [decide_eq_false z, Bool.and_false])] at this
        exact this
      · rw [so_s_t (by rw [decide_eq_true z, q]; rfl)] at this
        rw [pI_bit (by omega), pI_or]
        exact this
def LN (n : Nat → Nat) (S : Nat) : Nat → List Nat
  | 0 => []
  | v + 1 => lst (wn n S v).testBit 10 0 ++ LN n S v
theorem LN_mem {j : Nat} : ∀ v, j ∈ LN n S v ↔ j < 10 ∧ S.testBit j = true ∧ pc (n j) < v
  | 0 => by simp [LN]
  | v + 1 => by
    rw [LN, List.mem_append, lst_mem, LN_mem v]
    constructor
    · rintro (⟨h1, h2, h3⟩ | ⟨h1, h2, h3⟩)
      · rw [wn_bit (by omega), Bool.and_eq_true, decide_eq_true_iff] at h3
        exact ⟨by omega, h3.1, by omega⟩
      · exact ⟨h1, h2, by omega⟩
    · rintro ⟨h1, h2, h3⟩
      by_cases e : pc (n j) = v
      · refine Or.inl ⟨Nat.zero_le _, by omega, ?_⟩
        rw [wn_bit h1, h2, decide_eq_true e]
        rfl
      · exact Or.inr ⟨h1, h2, by omega⟩
/-- comes before -/
def bet (n : Nat → Nat) (by' : Bool) (i j : Nat) : Prop := (by' = true ∧ pc (n j) < pc (n i)) ∨ ((by' = false ∨ pc (n j) = pc (n i)) ∧ i < j)
theorem LN_pw : ∀ v, (LN n S v).Pairwise (bet n true)
  | 0 => List.Pairwise.nil
  | v + 1 => by
    rw [LN, List.pairwise_append]
    have key : ∀ i, i ∈ lst (wn n S v).testBit 10 0 → pc (n i) = v := fun i hi => by
      have := (lst_mem 10 0).mp hi
      have h3 := this.2.2
      rw [wn_bit (by omega), Bool.and_eq_true, decide_eq_true_iff] at h3
      exact h3.2
    refine ⟨?_, LN_pw v, fun i hi j hj => ?_⟩
    · refine lst_pw (fun i j hi hj hij => ?_) 10 0
      have hi10 : i < 10 := bit_lt (n := 10) (so_lt _ 10) hi
      have hj10 : j < 10 := bit_lt (n := 10) (so_lt _ 10) hj
      rw [wn_bit hi10, Bool.and_eq_true, decide_eq_true_iff] at hi
      rw [wn_bit hj10, Bool.and_eq_true, decide_eq_true_iff] at hj
      exact Or.inr ⟨Or.inr (by omega), hij⟩
    · have := key i hi
      have := (LN_mem v).mp hj
      exact Or.inl ⟨rfl, by omega⟩
theorem order_50 (hn : ∀ k, k < 10 → near k = nI (n k)) (hg : ∀ k, k < 10 → n k < 1024) (h9 : ∀ k, k < 10 → ct (n k).testBit 10 ≤ 9) (hnS : ∀ k i, k < 10 → i < 10 → (n k).testBit i = true → S.testBit i = true) {P0 : Int32 → (Nat → Int32) → Prop} : ∀ (v : Nat) (x : Int32) (D : Nat) (t : Nat → Nat) (m : Nat) (worn : Nat → Int32), x + 1 = nI v → (0 < v → x = nI (v - 1)) → (v = 0 → x = -1) → v ≤ 10 → m ≤ 10 → (∀ j, j < 10 → t j ≤ 10) → (∀ j, j < 10 → worn j = nI (clr S D t j)) → (∀ w', (∀ j, j < 10 → w' j = nI (clr S (ds (LN n S v) D) (wkT n (LN n S v) D t) j)) → P0 (nI (wkM n (LN n S v) D t m)) w') → q_X0_tintInOrder_L50 (nI S) near P0 (v + 1) (nI m) x worn := by
  intro v
  induction v with
  | zero =>
    intro x D t m worn _ _ hx hv hm hb hw h
    rw [hx rfl, q_X0_tintInOrder_L50]
    exact ⟨fun _ => h worn hw, fun q => absurd (by decide) q⟩
  | succ v ih =>
    intro x D t m worn _ hx _ hv hm hb hw h
    have e : x = nI v := hx (by omega)
    subst e
    rw [q_X0_tintInOrder_L50]
    refine ⟨fun q => absurd q (nI_pos (by omega)), fun _ => ⟨11, with_L hn hg (by omega) ⟨11, ?_⟩ 10 0 rfl⟩⟩
    have hl10 : ∀ j, j ∈ lst (wn n S v).testBit 10 0 → j < 10 := fun j hj => by
      have := (lst_mem 10 0).mp hj
      omega
    refine give_L hn h9 hnS 10 0 D t 0 worn rfl (by decide) hb hw (fun w' hw' => xl_i ?_)
    have hk := wk_le h9 (lst (wn n S v).testBit 10 0) hl10 D t 0 hb (by decide)
    rw [xmax_nI (by omega) (by omega), ← wkM_max]
    have hm2 := (wk_le h9 (lst (wn n S v).testBit 10 0) hl10 D t m hb hm).2
    refine ih _ _ _ _ w' ?_ (fun hv2 => ?_) (fun hv2 => ?_) (by omega) hm2 hk.1 hw' (fun w2 hw2 => ?_)
    · rw [Int32.add_assoc]
      exact Int32.add_zero _
    · obtain ⟨j, rfl⟩ : ∃ j, v = j + 1 := ⟨v - 1, by omega⟩
      rw [nI_m1, Nat.add_sub_cancel]
    · rw [hv2]; rfl
    · rw [LN, wkT_app, wkM_app] at h
      refine h w2 (fun j hj => ?_)
      rw [hw2 j hj]
      have ed : ∀ (l1 l2 : List Nat) (D : Nat), ds (l1 ++ l2) D = ds l2 (ds l1 D) := fun l1 => by
        induction l1 with
        | nil => intro l2 D; rfl
        | cons k l ihl => intro l2 D; exact ihl l2 _
      rw [ed]
/-- the order -/
def ord (n : Nat → Nat) (S : Nat) (by' : Bool) : List Nat := if by' = true then LN n S 10 else lst S.testBit 10 0
theorem ord_mem (hg : ∀ k, k < 10 → n k < 1024) (h9 : ∀ k, k < 10 → ct (n k).testBit 10 ≤ 9) {by' : Bool} {j : Nat} : j ∈ ord n S by' ↔ j < 10 ∧ S.testBit j = true := by
  unfold ord
  cases by' with
  | true =>
    rw [if_pos rfl, LN_mem]
    constructor
    · exact fun h => ⟨h.1, h.2.1⟩
    · rintro ⟨h1, h2⟩
      have := h9 j h1
      rw [← pc_n (n := 10) (hg j h1) (by decide)] at this
      exact ⟨h1, h2, by omega⟩
  | false =>
    rw [if_neg (by decide), lst_mem]
    constructor
    · exact fun h => ⟨by omega, h.2.2⟩
    · exact fun h => ⟨Nat.zero_le _, by omega, h.2⟩
theorem ord_pw {by' : Bool} : (ord n S by').Pairwise (bet n by') := by
  unfold ord
  cases by' with
  | true => rw [if_pos rfl]; exact LN_pw 10
  | false =>
    rw [if_neg (by decide)]
    exact lst_pw (fun i j _ _ h => Or.inr ⟨Or.inl rfl, h⟩) 10 0
theorem clr_done (hg : ∀ k, k < 10 → n k < 1024) (h9 : ∀ k, k < 10 → ct (n k).testBit 10 ≤ 9) {by' : Bool} {t : Nat → Nat} {j : Nat} (hj : j < 10) : clr S (ds (ord n S by') 0) t j = t j := by
  unfold clr
  rw [if_neg (fun h => ?_)]
  rw [Bool.and_eq_true, Bool.not_eq_true'] at h
  have := (ds_bit (i := j) (ord n S by') 0).mpr (Or.inr ((ord_mem hg h9).mpr ⟨hj, h.1⟩))
  rw [this] at h
  cases h.2
theorem X0_order_spec (hn : ∀ k, k < 10 → near k = nI (n k)) (hg : ∀ k, k < 10 → n k < 1024) (h9 : ∀ k, k < 10 → ct (n k).testBit 10 ≤ 9) (hnS : ∀ k i, k < 10 → i < 10 → (n k).testBit i = true → S.testBit i = true) {by' : Bool} {t : Nat → Nat} {worn : Nat → Int32} (hb : ∀ j, j < 10 → t j ≤ 10) (hw : ∀ j, j < 10 → worn j = nI (t j)) {P : Int32 → (Nat → Int32) → Prop} (h : ∀ w', (∀ j, j < 10 → w' j = nI (wkT n (ord n S by') 0 t j)) → P (nI (wkM n (ord n S by') 0 t 0)) w') : q_X0_tintInOrder (bI by') (nI S) near worn P := by
  refine ⟨11, clear_L (S := S) (t := t) (fun w1 hw1 => ⟨fun q => ?_, fun q => ?_⟩) 10 0 worn rfl (fun j hj => by rw [hw j hj, if_neg (Nat.not_lt_zero j)])⟩
  · cases by' with
    | false => exact absurd rfl q
    | true =>
      refine ⟨11, order_50 hn hg h9 hnS 10 9 0 t 0 w1 rfl (fun _ => rfl) (fun z => absurd z (by decide)) (by decide) (by decide) hb hw1 (fun w' hw' => h w' (fun j hj => ?_))⟩
      rw [hw' j hj]
      exact congrArg nI (clr_done (by' := true) hg h9 hj)
  · cases by' with
    | true => exact absurd q (by decide)
    | false =>
      refine ⟨11, give_L hn h9 hnS 10 0 0 t 0 w1 rfl (by decide) hb hw1 (fun w' hw' => h w' (fun j hj => ?_))⟩
      rw [hw' j hj]
      exact congrArg nI (clr_done (by' := false) hg h9 hj)
/-! the reference's order -/
def opn (S D j : Nat) : Prop := S.testBit j = true ∧ D.testBit j = false
def nxI (n : Nat → Nat) (S D : Nat) (by' : Bool) (i : Nat) (x : Int32) : Prop := (x = -1 ∧ ∀ j, j < i → ¬ opn S D j) ∨ ∃ b, b < i ∧ opn S D b ∧ x = nI b ∧ ∀ j, j < i → opn S D j → j ≠ b → bet n by' b j
theorem nx_27 (hn : ∀ k, k < 10 → near k = nI (n k)) (hg : ∀ k, k < 10 → n k < 1024) {D : Nat} (hS : S < 1024) (hD : D < 1024) {by' : Bool} {P0 : Int32 → Prop} (h : ∀ x, nxI n S D by' 10 x → P0 x) : ∀ (d i : Nat) (x : Int32), i + d = 10 → nxI n S D by' i x → q_X1_tintInOrder_L27 (bI by') (nI D) near (nI S) P0 (d + 1) x (nI i) := by
  intro d
  induction d with
  | zero =>
    intro i x hi e
    have : i = 10 := by omega
    subst this
    rw [q_X1_tintInOrder_L27]
    exact ⟨fun _ => h x e, fun q => absurd (by decide) q⟩
  | succ d ih =>
    intro i x hi e
    have hi2 : i < 10 := by omega
    have xi := xin_nI hi2 (by decide)
    rw [q_X1_tintInOrder_L27]
    refine ⟨fun q => absurd q (ge10 hi2), fun _ => ?_⟩
    rw [nI_1]
    have skip : ¬ opn S D i → nxI n S D by' (i + 1) x := fun hno => by
      rcases e with ⟨e1, e2⟩ | ⟨b, b1, b2, b3, b4⟩
      · refine Or.inl ⟨e1, fun j hj => ?_⟩
        rcases Nat.lt_succ_iff_lt_or_eq.mp hj with z | rfl
        · exact e2 j z
        · exact hno
      · refine Or.inr ⟨b, by omega, b2, b3, fun j hj o c => ?_⟩
        rcases Nat.lt_succ_iff_lt_or_eq.mp hj with z | rfl
        · exact b4 j z o c
        · exact absurd o hno
    have no : ¬ opn S D i → ∀ (tree : (Int32 → Prop) → Prop), (∀ J : Int32 → Prop, J 0 → tree J) → ∀ R : Int32 → Prop, (q_X1_tintInOrder_L27 (bI by') (nI D) near (nI S) P0 (d + 1) x (nI (i + 1)) → R 0) → xj1 R tree := fun hno tree ht R hR => xj1_i 0 ht (hR (ih (i + 1) x (by omega) (skip hno)))
    refine isT_spec hS hi2 (fun q => ?_) (fun q => ?_)
    · refine no (fun z => by rw [z.1] at q; cases q) _ (fun J hJ => xj0_i (fun J9 h9 => ⟨fun _ => h9, fun z => absurd rfl z⟩) hJ) _ (fun hR => ⟨fun _ => hR, fun z => absurd rfl z⟩)
    · cases qd : D.testBit i with
      | true =>
        refine no (fun z => by rw [z.2] at qd; cases qd) _ (fun J hJ => xj0_i (fun J9 h9 => ⟨fun z => absurd z (by decide), fun _ => ?_⟩) hJ) _ (fun hR => ⟨fun _ => hR, fun z => absurd rfl z⟩)
        rw [pI_tb0 hD hi2, qd]
        exact ⟨fun _ => h9, fun z => absurd z (by decide)⟩
      | false =>
        have ho : opn S D i := ⟨q, qd⟩
        refine xj1_i 1 (fun J hJ => xj0_u fun J9 => ⟨fun z => absurd z (by decide), fun _ => ?_⟩) ⟨fun z => absurd z (by decide), fun _ => ?_⟩
        · rw [pI_tb0 hD hi2, qd]
          exact ⟨fun z => absurd rfl z, fun _ => hJ⟩
        · rcases e with ⟨e1, e2⟩ | ⟨b, b1, b2, b3, b4⟩
          · refine ⟨fun _ => ih (i + 1) _ (by omega) (Or.inr ⟨i, by omega, ho, rfl, fun j hj o c => ?_⟩), fun z => absurd e1 z⟩
            exact absurd o (e2 j (by omega))
          · subst b3
            have hb10 : b < 10 := by omega
            refine ⟨fun z => ?_, fun _ => ?_⟩
            · rw [← cv_n hb10, cv_m1 (by omega)] at z
              omega
            · have stay : bet n by' b i → q_X1_tintInOrder_L27 (bI by') (nI D) near (nI S) P0 (d + 1) (nI b) (nI (i + 1)) := fun hbet => ih (i + 1) _ (by omega) (Or.inr ⟨b, by omega, b2, rfl, fun j hj o c => by
                rcases Nat.lt_succ_iff_lt_or_eq.mp hj with z | rfl
                · exact b4 j z o c
                · exact hbet⟩)
              cases by' with
              | false => exact ⟨fun _ => stay (Or.inr ⟨Or.inl rfl, b1⟩), fun z => absurd rfl z⟩
              | true =>
                refine ⟨fun z => absurd z (by decide), fun _ => ⟨xi, ?_⟩⟩
                have g1 := hg i hi2
                have g2 := hg b hb10
                have p1 := pc_10 g1
                have p2 := pc_10 g2
                rw [nI_clamp (n := i) (by omega), nI_clamp (n := b) (by omega), hn i hi2, hn b hb10, nI_l (by omega), nI_l (by omega)]
                refine bits_spec (by omega) ⟨xin_nI hb10 (by decide), bits_spec (by omega) ?_⟩
                rw [nI_leI (by omega) (by omega)]
                refine ⟨fun z => stay ?_, fun z => ih (i + 1) _ (by omega) (Or.inr ⟨i, by omega, ho, rfl, fun j hj o c => ?_⟩)⟩
                · rcases Nat.lt_or_ge (pc (n i)) (pc (n b)) with w | w
                  · exact Or.inl ⟨rfl, w⟩
                  · exact Or.inr ⟨Or.inr (by omega), b1⟩
                · refine Or.inl ⟨rfl, ?_⟩
                  by_cases w : j = b
                  · rw [w]; omega
                  · rcases b4 j (by omega) o w with y | y
                    · have := y.2; omega
                    · rcases y.1 with v | v
                      · cases v
                      · omega
theorem X1_order_L (hn : ∀ k, k < 10 → near k = nI (n k)) (hg : ∀ k, k < 10 → n k < 1024) (h9 : ∀ k, k < 10 → ct (n k).testBit 10 ≤ 9) (hS : S < 1024) {by' : Bool} {P0 : Int32 → (Nat → Int32) → Prop} : ∀ (l : List Nat) (D : Nat) (t : Nat → Nat) (m : Nat) (tint : Nat → Int32), D < 1024 → m ≤ 10 → (∀ j, j < 10 → (S.testBit j = true ↔ D.testBit j = true ∨ j ∈ l)) → (∀ j, j ∈ l → j < 10 ∧ D.testBit j = false) → l.Pairwise (bet n by') → (∀ j, j < 10 → t j ≤ 10) → (∀ j, j < 10 → tint j = nI (t j)) → (∀ T', (∀ j, j < 10 → T' j = nI (wkT n l D t j)) → P0 (nI (wkM n l D t m)) T') → q_X1_tintInOrder_L13 (bI by') near (nI S) P0 (l.length + 1) (nI m) (nI D) tint := by
  intro l
  induction l with
  | nil =>
    intro D t m tint hD hm hSD hl hpw hb hT h
    have e : D = S := set_eq (n := 10) hD hS (fun j hj => by
      have := hSD j hj
      rw [Bool.eq_iff_iff, this]
      simp)
    rw [List.length_nil, q_X1_tintInOrder_L13, e]
    rw [e] at h
    exact ⟨fun _ => h tint hT, fun q => absurd rfl q⟩
  | cons k l ih =>
    intro D t m tint hD hm hSD hl hpw hb hT h
    obtain ⟨hk, kD⟩ := hl k List.mem_cons_self
    have kS := (hSD k hk).mpr (Or.inr List.mem_cons_self)
    have xk := xin_nI hk (by decide)
    rw [List.pairwise_cons] at hpw
    have best : ∀ j, j < 10 → opn S D j → j ≠ k → bet n by' k j := fun j hj o c => by
      rcases (hSD j hj).mp o.1 with z | z
      · rw [o.2] at z; cases z
      · rcases List.mem_cons.mp z with z | z
        · exact absurd z c
        · exact hpw.1 j z
    rw [List.length_cons, q_X1_tintInOrder_L13]
    refine ⟨fun q => ?_, fun _ => ⟨11, nx_27 hn hg hS hD (fun x hx => ?_) 10 0 (-1) rfl (Or.inl ⟨rfl, fun j hj => absurd hj (Nat.not_lt_zero j)⟩)⟩⟩
    · have e : D = S := (pI_inj (by omega) (by omega)).mp q
      rw [e, kS] at kD
      cases kD
    · have ex : x = nI k := by
        rcases hx with ⟨_, e2⟩ | ⟨b, b1, b2, b3, b4⟩
        · exact absurd ⟨kS, kD⟩ (e2 k hk)
        · by_cases z : k = b
          · rw [z]; exact b3
          · exfalso
            have q1 := b4 k hk ⟨kS, kD⟩ z
            have q2 := best b b1 b2 (Ne.symm z)
            rcases q1 with ⟨a1, a2⟩ | ⟨a1, a2⟩
            · rcases q2 with ⟨c1, c2⟩ | ⟨c1, c2⟩
              · omega
              · rcases c1 with c1 | c1
                · rw [a1] at c1; cases c1
                · omega
            · rcases q2 with ⟨c1, c2⟩ | ⟨c1, c2⟩
              · rcases a1 with a1 | a1
                · rw [c1] at a1; cases a1
                · omega
              · omega
      subst ex
      have hf := lfv_spec (t := t) (and9 (D := D) (h9 k hk))
      have hf10 := hf.2.1
      refine ⟨xk, ?_⟩
      rw [nI_clamp (n := k) (by omega), hn k hk, pI_and]
      refine X1_lf (and_lt (n := 10) (hg k hk)) hT hb hf ⟨xk, xk, ?_⟩
      rw [upI_s, nI_leI (by omega) (by omega), pI_bit (by omega), pI_or]
      have nx : ∀ m2, m2 = max m (lfv (n k &&& D) t) → q_X1_tintInOrder_L13 (bI by') near (nI S) P0 (l.length + 1) (nI m2) (nI (D ||| 2 ^ k)) (upd tint k (nI (lfv (n k &&& D) t))) := fun m2 hm2 => by
        subst hm2
        refine ih (D ||| 2 ^ k) (fun j => if j = k then lfv (n k &&& D) t else t j) _ _ (or_lt (n := 10) hD (pow_lt10 hk)) (by omega) (fun j hj => ?_) (fun j hj => ?_) hpw.2 (up10 hb hf10) (fun j hj => ?_) h
        · rw [hSD j hj, orp_bit, Bool.or_eq_true, decide_eq_true_iff, List.mem_cons]
          constructor
          · rintro (z | z | z)
            · exact Or.inl (Or.inl z)
            · exact Or.inl (Or.inr z.symm)
            · exact Or.inr z
          · rintro ((z | z) | z)
            · exact Or.inl z
            · exact Or.inr (Or.inl z.symm)
            · exact Or.inr (Or.inr z)
        · obtain ⟨j1, j2⟩ := hl j (List.mem_cons_of_mem _ hj)
          refine ⟨j1, ?_⟩
          rw [orp_bit, j2, Bool.false_or]
          refine decide_eq_false fun z => ?_
          subst z
          rcases hpw.1 k hj with y | y
          · omega
          · omega
        · by_cases z : j = k
          · subst z; rw [upI_s, if_pos rfl]
          · rw [upI_n z, if_neg z]; exact hT j hj
      refine ⟨fun z => xl_i (nx m (by omega)), fun z => ⟨xk, xl_i (xl_i (nx _ (by omega)))⟩⟩
end ORD
theorem X1_order_spec {c t : Nat → Nat} {mcel mtint : Nat → Int32} (hc : ∀ i, i < 36 → mcel i = cv (c i)) (hb : ∀ i, i < 36 → c i ≤ 10) (hm : ∀ k, k < 10 → mtint k = nI (t k)) (ht : ∀ k, k < 10 → t k ≤ 10) {by' : Bool} {cells : Nat → Int64} {near : Nat → Int32} {P : Int32 → (Nat → Int32) → (Nat → Int64) → (Nat → Int32) → Int32 → Int32 → Prop} (h : ∀ T' cells' near' th', (∀ j, j < 10 → T' j = nI (wkT (ne_S c) (ord (ne_S c) (th_S c) by') 0 t j)) → P (nI (wkM (ne_S c) (ord (ne_S c) (th_S c) by') 0 t 0)) T' cells' near' th' 0) : q_X1_tintInOrder (bI by') mcel mtint cells near P := by
  have g := gr_ne c
  have h9 : ∀ k, k < 10 → ct (ne_S c k).testBit 10 ≤ 9 := fun k hk => ne_9 c hk
  refine looks_spec hc hb (fun cells' near' h1 h2 => ⟨(ord (ne_S c) (th_S c) by').length + 1, ?_⟩)
  exact X1_order_L h2 g.1 h9 (th_lt c) (ord (ne_S c) (th_S c) by') 0 t 0 mtint (by decide) (by decide) (fun j hj => by
    rw [ord_mem g.1 h9, Nat.zero_testBit]
    exact ⟨fun q => Or.inr ⟨hj, q⟩, fun q => by
      rcases q with q | q
      · cases q
      · exact q.2⟩) (fun j hj => ⟨((ord_mem g.1 h9).mp hj).1, Nat.zero_testBit j⟩) ord_pw ht hm (fun T' hT' => h T' _ _ _ hT')
section CASES
variable {L : Nat} {xs : Nat → Int32} {rec9 : recT} {i : Int32} {land : Nat → Int64} {there : Int32} {near : Nat → Int32} {worn : Nat → Int32} {trial : Nat → Int32} {fits : Nat → Int32} {ways : Nat → Int64} {joined : Nat → Nat → Int32} {mcel : Nat → Int32} {mtint : Nat → Int32} {mcells : Nat → Int64} {mnear : Nat → Int32} {mthere : Int32} {mways : Nat → Int64} {mmore : Nat → Int64} {mthrown : Int32} {out : Nat → Int64} {c t : Nat → Nat}
theorem case19 (hx : xin (i + (1 : Int32)) L = true) (r : RelX land there near worn mcel mtint c t) (hr : RecOK rec9 i) : q_L_case19 L xs rec9 i land there near worn trial fits ways joined mcel mtint mcells mnear mthere mways mmore mthrown out := by
  obtain ⟨hb, ht, hl, hth, hn, hw, hc, hm⟩ := id r
  subst hth
  have g := gr_ne c
  have h9 : ∀ k, k < 10 → ct (ne_S c k).testBit 10 ≤ 9 := fun k hk => ne_9 c hk
  have hle : ∀ by', ∀ j, j < 10 → wkT (ne_S c) (ord (ne_S c) (th_S c) by') 0 t j ≤ 10 := fun by' => (wk_le h9 _ (fun j hj => ((ord_mem g.1 h9).mp hj).1) 0 t 0 ht (by decide)).1
  unfold q_L_case19
  refine ⟨hx, ?_⟩
  generalize xs (i + (1 : Int32)).toNatClampNeg = p
  refine ⟨fun q => ?_, fun q => ?_⟩
  · refine X0_order_spec (by' := false) hn g.1 h9 (fun k i hk hi a => ne_th hi a) ht hw (fun w' hw' => ⟨hx, fun _ => ?_, fun z => absurd q z⟩)
    refine X1_order_spec (by' := false) hc hb hm ht (fun T' _ _ _ hT' => ?_)
    exact end_eq (hr _ _ _ _ _ _ _ _ _ _ _ _ _ _ _ _ _ c _ (rel_t r (hle false) hw' hT'))
  · refine X0_order_spec (by' := true) hn g.1 h9 (fun k i hk hi a => ne_th hi a) ht hw (fun w' hw' => ⟨hx, fun z => absurd z q, fun _ => ?_⟩)
    refine X1_order_spec (by' := true) hc hb hm ht (fun T' _ _ _ hT' => ?_)
    exact end_eq (hr _ _ _ _ _ _ _ _ _ _ _ _ _ _ _ _ _ c _ (rel_t r (hle true) hw' hT'))
end CASES
