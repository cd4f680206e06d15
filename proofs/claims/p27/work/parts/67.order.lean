/-! the pure side: tintInOrder -/
def LF (N : Nat) (t : Nat → Nat) (f : Nat) : Prop := 1 ≤ f ∧ f ≤ 10 ∧ ¬ taken N t f ∧ ∀ v, 1 ≤ v → v < f → taken N t v
noncomputable def lfv (N : Nat) (t : Nat → Nat) : Nat := @Classical.epsilon Nat ⟨0⟩ (LF N t)
theorem lfv_spec {N : Nat} {t : Nat → Nat} (h9 : ct N.testBit 10 ≤ 9) : LF N t (lfv N t) := by
  obtain ⟨f, h⟩ := lf_ex (t := t) h9
  exact @Classical.epsilon_spec Nat (LF N t) ⟨f, h⟩
theorem X0_lf {N f : Nat} {t : Nat → Nat} {worn : Nat → Int32} (hw : ∀ k, k < 10 → worn k = nI (t k)) (hb : ∀ k, k < 10 → t k ≤ 10) (h : LF N t f) {P : Int32 → Prop} (hp : P (nI f)) : q_X0_leastFreeBeside (nI N) worn P := ⟨10, X0_free_L hw hb h.2.1 h.2.2.1 h.2.2.2 hp 9 1 (by omega) h.1 rfl⟩
/-- countries that are there and aren't tinted yet have no tint -/
def clr (S D : Nat) (t : Nat → Nat) : Nat → Nat := fun j => if (S.testBit j && !D.testBit j) = true then 0 else t j
theorem clr_le {S D : Nat} {t : Nat → Nat} (hb : ∀ k, k < 10 → t k ≤ 10) : ∀ k, k < 10 → clr S D t k ≤ 10 := fun k hk => by
  unfold clr
  split
  · omega
  · exact hb k hk
theorem LF_clr {N S D f : Nat} {t : Nat → Nat} (hN : ∀ i, i < 10 → N.testBit i = true → S.testBit i = true) (h : LF (N &&& D) t f) : LF N (clr S D t) f := by
  have key : ∀ v, 1 ≤ v → (taken N (clr S D t) v ↔ taken (N &&& D) t v) := fun v hv => by
    constructor
    · rintro ⟨j, hj, a, b⟩
      unfold clr at b
      rw [hN j hj a, Bool.true_and] at b
      cases q : D.testBit j with
      | false => rw [q, if_pos (by decide)] at b; omega
      | true =>
        rw [q, if_neg (by decide)] at b
        exact ⟨j, hj, by rw [Nat.testBit_and, a, q]; rfl, b⟩
    · rintro ⟨j, hj, a, b⟩
      rw [Nat.testBit_and, Bool.and_eq_true] at a
      refine ⟨j, hj, a.1, ?_⟩
      unfold clr
      rw [a.2, Bool.not_true, Bool.and_false, if_neg (by decide)]
      exact b
  exact ⟨h.1, h.2.1, fun q => h.2.2.1 ((key f h.1).mp q), fun v h1 h2 => (key v h1).mpr (h.2.2.2 v h1 h2)⟩
/-- countries tinted one after the other -/
noncomputable def wkT (n : Nat → Nat) : List Nat → Nat → (Nat → Nat) → (Nat → Nat)
  | [], _, t => t
  | k :: l, D, t => wkT n l (D ||| 2 ^ k) (fun j => if j = k then lfv (n k &&& D) t else t j)
noncomputable def wkM (n : Nat → Nat) : List Nat → Nat → (Nat → Nat) → Nat → Nat
  | [], _, _, m => m
  | k :: l, D, t, m => wkM n l (D ||| 2 ^ k) (fun j => if j = k then lfv (n k &&& D) t else t j) (max m (lfv (n k &&& D) t))
def ds : List Nat → Nat → Nat
  | [], D => D
  | k :: l, D => ds l (D ||| 2 ^ k)
theorem ds_bit {i : Nat} : ∀ (l : List Nat) (D : Nat), (ds l D).testBit i = true ↔ D.testBit i = true ∨ i ∈ l
  | [], D => by simp [ds]
  | k :: l, D => by
    rw [ds, ds_bit l, orp_bit, Bool.or_eq_true, decide_eq_true_iff, List.mem_cons]
    constructor
    · rintro ((h | h) | h)
      · exact Or.inl h
      · exact Or.inr (Or.inl h.symm)
      · exact Or.inr (Or.inr h)
    · rintro (h | h | h)
      · exact Or.inl (Or.inl h)
      · exact Or.inl (Or.inr h.symm)
      · exact Or.inr h
theorem wkT_app (n : Nat → Nat) (l2 : List Nat) : ∀ (l1 : List Nat) (D : Nat) (t : Nat → Nat), wkT n (l1 ++ l2) D t = wkT n l2 (ds l1 D) (wkT n l1 D t)
  | [], _, _ => rfl
  | k :: l1, D, t => wkT_app n l2 l1 _ _
theorem wkM_app (n : Nat → Nat) (l2 : List Nat) : ∀ (l1 : List Nat) (D : Nat) (t : Nat → Nat) (m : Nat), wkM n (l1 ++ l2) D t m = wkM n l2 (ds l1 D) (wkT n l1 D t) (wkM n l1 D t m)
  | [], _, _, _ => rfl
  | k :: l1, D, t, m => wkM_app n l2 l1 _ _ _
theorem wkM_max (n : Nat → Nat) : ∀ (l : List Nat) (D : Nat) (t : Nat → Nat) (m : Nat), wkM n l D t m = max m (wkM n l D t 0)
  | [], _, _, m => (Nat.max_zero m).symm
  | k :: l, D, t, m => by
    rw [wkM, wkM, wkM_max n l _ _ (max m _), wkM_max n l _ _ (max 0 _), Nat.zero_max, Nat.max_assoc]
theorem up10 {t : Nat → Nat} {k f : Nat} (hb : ∀ j, j < 10 → t j ≤ 10) (hf : f ≤ 10) : ∀ j, j < 10 → (fun j => if j = k then f else t j) j ≤ 10 := fun j hj => by
  show (if j = k then f else t j) ≤ 10
  split
  · exact hf
  · exact hb j hj
theorem and9 {N D : Nat} (h : ct N.testBit 10 ≤ 9) : ct (N &&& D).testBit 10 ≤ 9 := Nat.le_trans (ct_sub (fun k _ a => by rw [Nat.testBit_and, Bool.and_eq_true] at a; exact a.1)) h
theorem wk_le {n : Nat → Nat} (h9 : ∀ k, k < 10 → ct (n k).testBit 10 ≤ 9) : ∀ (l : List Nat), (∀ j, j ∈ l → j < 10) → ∀ (D : Nat) (t : Nat → Nat) (m : Nat), (∀ j, j < 10 → t j ≤ 10) → m ≤ 10 → (∀ j, j < 10 → wkT n l D t j ≤ 10) ∧ wkM n l D t m ≤ 10
  | [], _, _, _, _, hb, hm => ⟨hb, hm⟩
  | k :: l, hl, D, t, m, hb, hm => by
    have hf := lfv_spec (t := t) (and9 (D := D) (h9 k (hl k List.mem_cons_self)))
    exact wk_le h9 l (fun j hj => hl j (List.mem_cons_of_mem _ hj)) (D ||| 2 ^ k) _ (max m (lfv (n k &&& D) t)) (up10 hb hf.2.1) (by have := hf.2.1; omega)
/-- the members of a set, by their numbers -/
def lst (p : Nat → Bool) : Nat → Nat → List Nat
  | 0, _ => []
  | d + 1, k => if p k = true then k :: lst p d (k + 1) else lst p d (k + 1)
theorem lst_mem {p : Nat → Bool} {j : Nat} : ∀ (d k : Nat), j ∈ lst p d k ↔ k ≤ j ∧ j < k + d ∧ p j = true
  | 0, k => by
    simp [lst]
    omega
  | d + 1, k => by
    rw [lst]
    by_cases q : p k = true
    · rw [if_pos q, List.mem_cons, lst_mem d (k + 1)]
      constructor
      · rintro (h | ⟨h1, h2, h3⟩)
        · subst h; exact ⟨Nat.le_refl _, by omega, q⟩
        · exact ⟨by omega, by omega, h3⟩
      · rintro ⟨h1, h2, h3⟩
        by_cases e : j = k
        · exact Or.inl e
        · exact Or.inr ⟨by omega, by omega, h3⟩
    · rw [if_neg q, lst_mem d (k + 1)]
      constructor
      · rintro ⟨h1, h2, h3⟩
        exact ⟨by omega, by omega, h3⟩
      · rintro ⟨h1, h2, h3⟩
        refine ⟨?_, by omega, h3⟩
        by_cases e : j = k
        · rw [e] at h3; exact absurd h3 q
        · omega
theorem lst_pw {p : Nat → Bool} {R : Nat → Nat → Prop} (hR : ∀ i j, p i = true → p j = true → i < j → R i j) : ∀ (d k : Nat), (lst p d k).Pairwise R
  | 0, _ => List.Pairwise.nil
  | d + 1, k => by
    rw [lst]
    by_cases q : p k = true
    · rw [if_pos q]
      refine List.Pairwise.cons (fun j hj => ?_) (lst_pw hR d (k + 1))
      have := (lst_mem d (k + 1)).mp hj
      exact hR k j q this.2.2 (by omega)
    · rw [if_neg q]
      exact lst_pw hR d (k + 1)
section ORD
variable {n : Nat → Nat} {near : Nat → Int32} {S : Nat}
theorem give_L (hn : ∀ k, k < 10 → near k = nI (n k)) (h9 : ∀ k, k < 10 → ct (n k).testBit 10 ≤ 9) (hnS : ∀ k i, k < 10 → i < 10 → (n k).testBit i = true → S.testBit i = true) {s : Nat} {P0 : Int32 → (Nat → Int32) → Prop} : ∀ (d k : Nat) (D : Nat) (t : Nat → Nat) (m : Nat) (worn : Nat → Int32), k + d = 10 → m ≤ 10 → (∀ j, j < 10 → t j ≤ 10) → (∀ j, j < 10 → worn j = nI (clr S D t j)) → (∀ w', (∀ j, j < 10 → w' j = nI (clr S (ds (lst s.testBit d k) D) (wkT n (lst s.testBit d k) D t) j)) → P0 (nI (wkM n (lst s.testBit d k) D t m)) w') → q_X0_giveLeastFree_L4 (nI s) near P0 (d + 1) (nI m) (nI k) worn := by
  intro d
  induction d with
  | zero =>
    intro k D t m worn hk hm hb hw h
    have : k = 10 := by omega
    subst this
    rw [q_X0_giveLeastFree_L4]
    exact ⟨fun _ => h worn hw, fun q => absurd (by decide) q⟩
  | succ d ih =>
    intro k D t m worn hk hm hb hw h
    have hk2 : k < 10 := by omega
    have xk := xin_nI hk2 (by decide)
    rw [q_X0_giveLeastFree_L4]
    refine ⟨fun q => absurd q (ge10 hk2), fun _ => has_spec hk2 (fun q => ⟨fun _ => ?_, fun z => absurd rfl z⟩) (fun q => ⟨fun z => absurd z (by decide), fun _ => ⟨xk, ?_⟩⟩)⟩
    · rw [nI_1]
      refine ih (k + 1) D t m worn (by omega) hm hb hw (fun w' hw' => ?_)
      rw [lst, if_neg (by rw [q]; decide)] at h
      exact h w' hw'
    · rw [nI_clamp (n := k) (by omega), hn k hk2]
      have hf := lfv_spec (t := t) (and9 (D := D) (h9 k hk2))
      refine X0_lf hw (clr_le hb) (LF_clr (fun i hi a => hnS k i hk2 hi a) hf) ⟨xk, xk, xl_i ?_⟩
      have hf10 := hf.2.1
      rw [upI_s, xmax_nI (by omega) (by omega), nI_1]
      rw [lst, if_pos q] at h
      refine ih (k + 1) (D ||| 2 ^ k) (fun j => if j = k then lfv (n k &&& D) t else t j) (max m (lfv (n k &&& D) t)) _ (by omega) (by omega) (up10 hb hf10) (fun j hj => ?_) h
      by_cases z : j = k
      · subst z
        rw [upI_s]
        unfold clr
        rw [orp_bit, decide_eq_true rfl, Bool.or_true, Bool.not_true, Bool.and_false, if_neg (by decide)]
        exact congrArg nI (if_pos rfl).symm
      · rw [upI_n z, hw j hj]
        unfold clr
        dsimp only
        rw [orp_bit, decide_eq_false (Ne.symm z), Bool.or_false, if_neg z]
theorem clear_L {t : Nat → Nat} {P0 : (Nat → Int32) → Prop} (h : ∀ w', (∀ j, j < 10 → w' j = nI (clr S 0 t j)) → P0 w') : ∀ (d k : Nat) (worn : Nat → Int32), k + d = 10 → (∀ j, j < 10 → worn j = nI (if j < k then clr S 0 t j else t j)) → q_X0_tintInOrder_L2 (nI S) P0 (d + 1) (nI k) worn := by
  intro d
  induction d with
  | zero =>
    intro k worn hk e
    have : k = 10 := by omega
    subst this
    rw [q_X0_tintInOrder_L2]
    exact ⟨fun _ => h worn (fun j hj => by rw [e j hj, if_pos hj]), fun q => absurd (by decide) q⟩
  | succ d ih =>
    intro k worn hk e
    have hk2 : k < 10 := by omega
    rw [q_X0_tintInOrder_L2]
    refine ⟨fun q => absurd q (ge10 hk2), fun _ => has_spec hk2 (fun q => ⟨fun _ => ?_, fun z => absurd rfl z⟩) (fun q => ⟨fun z => absurd z (by decide), fun _ => ⟨xin_nI hk2 (by decide), ?_⟩⟩)⟩
    · rw [nI_1]
      refine ih (k + 1) worn (by omega) (fun j hj => ?_)
      rw [e j hj]
      by_cases z : j < k
      · rw [if_pos z, if_pos (by omega)]
      · rw [if_neg z]
        by_cases y : j = k
        · subst y
          rw [if_pos (by omega)]
          unfold clr
          rw [q, Bool.false_and, if_neg (by decide)]
        · rw [if_neg (by omega)]
    · rw [nI_clamp (n := k) (by omega), nI_1]
      refine ih (k + 1) _ (by omega) (fun j hj => ?_)
      by_cases y : j = k
      · subst y
        rw [upI_s, if_pos (by omega)]
        unfold clr
        rw [q, Nat.zero_testBit, if_pos (by decide)]
        rfl
      · rw [upI_n y, e j hj]
        by_cases z : j < k
        · rw [if_pos z, if_pos (by omega)]
        · rw [if_neg z, if_neg (by omega)]
/-- with so many neighbours -/
def wn (n : Nat → Nat) (S v : Nat) : Nat := so (fun k => S.testBit k && decide (pc (n k) = v)) 10
theorem wn_bit {v k : Nat} (hk : k < 10) : (wn n S v).testBit k = (S.testBit k && decide (pc (n k) = v)) := by
  unfold wn
  rw [so_bit, decide_eq_true hk, Bool.true_and]
theorem with_L (hn : ∀ k, k < 10 → near k = nI (n k)) (hg : ∀ k, k < 10 → n k < 1024) {v : Nat} (hv : v < 10) {P0 : Int32 → Prop} (h : P0 (nI (wn n S v))) : ∀ (d k : Nat), k + d = 10 → q_X0_withNeighbours_L4 (nI v) (nI S) near P0 (d + 1) (nI (so (fun k => S.testBit k && decide (pc (n k) = v)) k)) (nI k) := by
  intro d
  induction d with
  | zero =>
    intro k hk
    have : k = 10 := by omega
    subst this
    rw [q_X0_withNeighbours_L4]
    exact ⟨fun _ => h, fun q => absurd (by decide) q⟩
  | succ d ih =>
    intro k hk
    have hk2 : k < 10 := by omega
    have := ih (k + 1) (by omega)
    have hp := pc_10 (hg k hk2)
    rw [q_X0_withNeighbours_L4]
    refine ⟨fun q => absurd q (ge10 hk2), fun _ => has_spec hk2 (fun q => ⟨fun _ => ?_, fun z => absurd rfl z⟩) (fun q => ⟨fun z => absurd z (by decide), fun _ => ⟨xin_nI hk2 (by decide), ?_⟩⟩)⟩
    · rw [so_s_f (by rw [q, Bool.false_and])] at this
      rw [nI_1]; exact this
    · rw [nI_clamp (n := k) (by omega), hn k hk2]
      refine J6_spec (hg k hk2) ?_
      rw [nI_eq (by omega) (by omega), nI_1]
      refine ⟨fun z => ?_, fun z => xl_i ?_⟩
      · rw [so_s_f (by rw [decide_eq_false z, Bool.and_false])] at this
        exact this
      · rw [so_s_t (by rw [decide_eq_true z, q]; rfl)] at this
        rw [pI_bit (by omega), pI_or]
        exact this
def LN (n : Nat → Nat) (S : Nat) : Nat → List Nat
  | 0 => []
  | v + 1 => lst (wn n S v).testBit 10 0 ++ LN n S v
theorem LN_mem {j : Nat} : ∀ v, j ∈ LN n S v ↔ j < 10 ∧ S.testBit j = true ∧ pc (n j) < v
  | 0 => by simp [LN]
  | v + 1 => by
    rw [LN, List.mem_append, lst_mem, LN_mem v]
    constructor
    · rintro (⟨h1, h2, h3⟩ | ⟨h1, h2, h3⟩)
      · rw [wn_bit (by omega), Bool.and_eq_true, decide_eq_true_iff] at h3
        exact ⟨by omega, h3.1, by omega⟩
      · exact ⟨h1, h2, by omega⟩
    · rintro ⟨h1, h2, h3⟩
      by_cases e : pc (n j) = v
      · refine Or.inl ⟨Nat.zero_le _, by omega, ?_⟩
        rw [wn_bit h1, h2, decide_eq_true e]
        rfl
      · exact Or.inr ⟨h1, h2, by omega⟩
/-- comes before -/
def bet (n : Nat → Nat) (by' : Bool) (i j : Nat) : Prop := (by' = true ∧ pc (n j) < pc (n i)) ∨ ((by' = false ∨ pc (n j) = pc (n i)) ∧ i < j)
theorem LN_pw : ∀ v, (LN n S v).Pairwise (bet n true)
  | 0 => List.Pairwise.nil
  | v + 1 => by
    rw [LN, List.pairwise_append]
    have key : ∀ i, i ∈ lst (wn n S v).testBit 10 0 → pc (n i) = v := fun i hi => by
      have := (lst_mem 10 0).mp hi
      have h3 := this.2.2
      rw [wn_bit (by omega), Bool.and_eq_true, decide_eq_true_iff] at h3
      exact h3.2
    refine ⟨?_, LN_pw v, fun i hi j hj => ?_⟩
    · refine lst_pw (fun i j hi hj hij => ?_) 10 0
      have hi10 : i < 10 := bit_lt (n := 10) (so_lt _ 10) hi
      have hj10 : j < 10 := bit_lt (n := 10) (so_lt _ 10) hj
      rw [wn_bit hi10, Bool.and_eq_true, decide_eq_true_iff] at hi
      rw [wn_bit hj10, Bool.and_eq_true, decide_eq_true_iff] at hj
      exact Or.inr ⟨Or.inr (by omega), hij⟩
    · have := key i hi
      have := (LN_mem v).mp hj
      exact Or.inl ⟨rfl, by omega⟩
theorem order_50 (hn : ∀ k, k < 10 → near k = nI (n k)) (hg : ∀ k, k < 10 → n k < 1024) (h9 : ∀ k, k < 10 → ct (n k).testBit 10 ≤ 9) (hnS : ∀ k i, k < 10 → i < 10 → (n k).testBit i = true → S.testBit i = true) {P0 : Int32 → (Nat → Int32) → Prop} : ∀ (v : Nat) (x : Int32) (D : Nat) (t : Nat → Nat) (m : Nat) (worn : Nat → Int32), x + 1 = nI v → (0 < v → x = nI (v - 1)) → (v = 0 → x = -1) → v ≤ 10 → m ≤ 10 → (∀ j, j < 10 → t j ≤ 10) → (∀ j, j < 10 → worn j = nI (clr S D t j)) → (∀ w', (∀ j, j < 10 → w' j = nI (clr S (ds (LN n S v) D) (wkT n (LN n S v) D t) j)) → P0 (nI (wkM n (LN n S v) D t m)) w') → q_X0_tintInOrder_L50 (nI S) near P0 (v + 1) (nI m) x worn := by
  intro v
  induction v with
  | zero =>
    intro x D t m worn _ _ hx hv hm hb hw h
    rw [hx rfl, q_X0_tintInOrder_L50]
    exact ⟨fun _ => h worn hw, fun q => absurd (by decide) q⟩
  | succ v ih =>
    intro x D t m worn _ hx _ hv hm hb hw h
    have e : x = nI v := hx (by omega)
    subst e
    rw [q_X0_tintInOrder_L50]
    refine ⟨fun q => absurd q (nI_pos (by omega)), fun _ => ⟨11, with_L hn hg (by omega) ⟨11, ?_⟩ 10 0 rfl⟩⟩
    have hl10 : ∀ j, j ∈ lst (wn n S v).testBit 10 0 → j < 10 := fun j hj => by
      have := (lst_mem 10 0).mp hj
      omega
    refine give_L hn h9 hnS 10 0 D t 0 worn rfl (by decide) hb hw (fun w' hw' => xl_i ?_)
    have hk := wk_le h9 (lst (wn n S v).testBit 10 0) hl10 D t 0 hb (by decide)
    rw [xmax_nI (by omega) (by omega), ← wkM_max]
    have hm2 := (wk_le h9 (lst (wn n S v).testBit 10 0) hl10 D t m hb hm).2
    refine ih _ _ _ _ w' ?_ (fun hv2 => ?_) (fun hv2 => ?_) (by omega) hm2 hk.1 hw' (fun w2 hw2 => ?_)
    · rw [Int32.add_assoc]
      exact Int32.add_zero _
    · obtain ⟨j, rfl⟩ : ∃ j, v = j + 1 := ⟨v - 1, by omega⟩
      rw [nI_m1, Nat.add_sub_cancel]
    · rw [hv2]; rfl
    · rw [LN, wkT_app, wkM_app] at h
      refine h w2 (fun j hj => ?_)
      rw [hw2 j hj]
      have ed : ∀ (l1 l2 : List Nat) (D : Nat), ds (l1 ++ l2) D = ds l2 (ds l1 D) := fun l1 => by
        induction l1 with
        | nil => intro l2 D; rfl
        | cons k l ihl => intro l2 D; exact ihl l2 _
      rw [ed]
/-- the order -/
def ord (n : Nat → Nat) (S : Nat) (by' : Bool) : List Nat := if by' = true then LN n S 10 else lst S.testBit 10 0
theorem ord_mem (hg : ∀ k, k < 10 → n k < 1024) (h9 : ∀ k, k < 10 → ct (n k).testBit 10 ≤ 9) {by' : Bool} {j : Nat} : j ∈ ord n S by' ↔ j < 10 ∧ S.testBit j = true := by
  unfold ord
  cases by' with
  | true =>
    rw [if_pos rfl, LN_mem]
    constructor
    · exact fun h => ⟨h.1, h.2.1⟩
    · rintro ⟨h1, h2⟩
      have := h9 j h1
      rw [← pc_n (n := 10) (hg j h1) (by decide)] at this
      exact ⟨h1, h2, by omega⟩
  | false =>
    rw [if_neg (by decide), lst_mem]
    constructor
    · exact fun h => ⟨by omega, h.2.2⟩
    · exact fun h => ⟨Nat.zero_le _, by omega, h.2⟩
theorem ord_pw {by' : Bool} : (ord n S by').Pairwise (bet n by') := by
  unfold ord
  cases by' with
  | true => rw [if_pos rfl]; exact LN_pw 10
  | false =>
    rw [if_neg (by decide)]
    exact lst_pw (fun i j _ _ h => Or.inr ⟨Or.inl rfl, h⟩) 10 0
theorem clr_done (hg : ∀ k, k < 10 → n k < 1024) (h9 : ∀ k, k < 10 → ct (n k).testBit 10 ≤ 9) {by' : Bool} {t : Nat → Nat} {j : Nat} (hj : j < 10) : clr S (ds (ord n S by') 0) t j = t j := by
  unfold clr
  rw [if_neg (fun h => ?_)]
  rw [Bool.and_eq_true, Bool.not_eq_true'] at h
  have := (ds_bit (i := j) (ord n S by') 0).mpr (Or.inr ((ord_mem hg h9).mpr ⟨hj, h.1⟩))
  rw [this] at h
  cases h.2
theorem X0_order_spec (hn : ∀ k, k < 10 → near k = nI (n k)) (hg : ∀ k, k < 10 → n k < 1024) (h9 : ∀ k, k < 10 → ct (n k).testBit 10 ≤ 9) (hnS : ∀ k i, k < 10 → i < 10 → (n k).testBit i = true → S.testBit i = true) {by' : Bool} {t : Nat → Nat} {worn : Nat → Int32} (hb : ∀ j, j < 10 → t j ≤ 10) (hw : ∀ j, j < 10 → worn j = nI (t j)) {P : Int32 → (Nat → Int32) → Prop} (h : ∀ w', (∀ j, j < 10 → w' j = nI (wkT n (ord n S by') 0 t j)) → P (nI (wkM n (ord n S by') 0 t 0)) w') : q_X0_tintInOrder (bI by') (nI S) near worn P := by
  refine ⟨11, clear_L (S := S) (t := t) (fun w1 hw1 => ⟨fun q => ?_, fun q => ?_⟩) 10 0 worn rfl (fun j hj => by rw [hw j hj, if_neg (Nat.not_lt_zero j)])⟩
  · cases by' with
    | false => exact absurd rfl q
    | true =>
      refine ⟨11, order_50 hn hg h9 hnS 10 9 0 t 0 w1 rfl (fun _ => rfl) (fun z => absurd z (by decide)) (by decide) (by decide) hb hw1 (fun w' hw' => h w' (fun j hj => ?_))⟩
      rw [hw' j hj]
      exact congrArg nI (clr_done (by' := true) hg h9 hj)
  · cases by' with
    | true => exact absurd q (by decide)
    | false =>
      refine ⟨11, give_L hn h9 hnS 10 0 0 t 0 w1 rfl (by decide) hb hw1 (fun w' hw' => h w' (fun j hj => ?_))⟩
      rw [hw' j hj]
      exact congrArg nI (clr_done (by' := false) hg h9 hj)
/-! the reference's order -/
def opn (S D j : Nat) : Prop := S.testBit j = true ∧ D.testBit j = false
def nxI (n : Nat → Nat) (S D : Nat) (by' : Bool) (i : Nat) (x : Int32) : Prop := (x = -1 ∧ ∀ j, j < i → ¬ opn S D j) ∨ ∃ b, b < i ∧ opn S D b ∧ x = nI b ∧ ∀ j, j < i → opn S D j → j ≠ b → bet n by' b j
end ORD
