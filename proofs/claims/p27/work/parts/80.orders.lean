/-! tinting in an order, and with the fewest: what the tints are like -/
theorem bet_irr {n : Nat → Nat} {b : Bool} {i : Nat} : ¬ bet n b i i := fun h => by
  rcases h with h | h
  · exact Nat.lt_irrefl _ h.2
  · exact Nat.lt_irrefl _ h.2
theorem bet_as {n : Nat → Nat} {b : Bool} {i j : Nat} (h1 : bet n b i j) (h2 : bet n b j i) : False := by
  rcases h1 with ⟨a1, a2⟩ | ⟨a1, a2⟩
  · rcases h2 with ⟨b1, b2⟩ | ⟨b1, b2⟩
    · omega
    · rcases b1 with b1 | b1
      · rw [a1] at b1; cases b1
      · omega
  · rcases h2 with ⟨b1, b2⟩ | ⟨b1, b2⟩
    · rcases a1 with a1 | a1
      · rw [b1] at a1; cases a1
      · omega
    · omega
theorem bet_tot {n : Nat → Nat} {b : Bool} {i j : Nat} (h : i ≠ j) : bet n b i j ∨ bet n b j i := by
  unfold bet
  cases b
  · rcases Nat.lt_or_gt_of_ne h with h | h
    · exact Or.inl (Or.inr ⟨Or.inl rfl, h⟩)
    · exact Or.inr (Or.inr ⟨Or.inl rfl, h⟩)
  · rcases Nat.lt_trichotomy (pc (n i)) (pc (n j)) with q | q | q
    · exact Or.inr (Or.inl ⟨rfl, q⟩)
    · rcases Nat.lt_or_gt_of_ne h with h | h
      · exact Or.inl (Or.inr ⟨Or.inr q.symm, h⟩)
      · exact Or.inr (Or.inr ⟨Or.inr q, h⟩)
    · exact Or.inl (Or.inl ⟨rfl, q⟩)
theorem LF_cong {N N' f : Nat} {t t' : Nat → Nat} (h : ∀ j, j < 10 → (N.testBit j = true ↔ N'.testBit j = true)) (ht : ∀ j, j < 10 → N.testBit j = true → t j = t' j) (hf : LF N t f) : LF N' t' f := by
  have e : ∀ v, taken N t v ↔ taken N' t' v := fun v => ⟨fun ⟨j, hj, a, b⟩ => ⟨j, hj, (h j hj).mp a, by rw [← ht j hj a]; exact b⟩, fun ⟨j, hj, a, b⟩ => ⟨j, hj, (h j hj).mpr a, by rw [ht j hj ((h j hj).mpr a)]; exact b⟩⟩
  exact ⟨hf.1, hf.2.1, fun q => hf.2.2.1 ((e f).mpr q), fun v v1 v2 => (e v).mp (hf.2.2.2 v v1 v2)⟩
theorem wk_spec {n : Nat → Nat} {b : Bool} (h9 : ∀ k, k < 10 → ct (n k).testBit 10 ≤ 9) : ∀ (l : List Nat) (D : Nat) (t : Nat → Nat), l.Pairwise (bet n b) → (∀ k ∈ l, k < 10) → (∀ k ∈ l, D.testBit k = false) → (∀ k ∈ l, ∃ E, (∀ j, E.testBit j = true ↔ D.testBit j = true ∨ (j ∈ l ∧ bet n b j k)) ∧ LF (n k &&& E) (wkT n l D t) (wkT n l D t k)) ∧ (∀ j, j ∉ l → wkT n l D t j = t j) := by
  intro l
  induction l with
  | nil =>
    intro D t _ _ _
    exact ⟨fun k hk => absurd hk List.not_mem_nil, fun j _ => rfl⟩
  | cons a l ih =>
    intro D t hp hlt hD
    rw [List.pairwise_cons] at hp
    obtain ⟨hp1, hp2⟩ := hp
    have ha : a ∉ l := fun q => bet_irr (hp1 a q)
    have ha10 := hlt a List.mem_cons_self
    have hDa := hD a List.mem_cons_self
    rw [wkT]
    obtain ⟨i1, i2⟩ := ih (D ||| 2 ^ a) (fun j => if j = a then lfv (n a &&& D) t else t j) hp2 (fun k hk => hlt k (List.mem_cons_of_mem _ hk)) (fun k hk => by
      rw [orp_bit, hD k (List.mem_cons_of_mem _ hk), Bool.false_or]
      exact decide_eq_false (fun q => ha (by rw [q]; exact hk)))
    refine ⟨fun k hk => ?_, fun j hj => ?_⟩
    · rcases List.mem_cons.mp hk with e | hk'
      · subst e
        refine ⟨D, fun j => ⟨fun q => Or.inl q, fun q => ?_⟩, ?_⟩
        · rcases q with q | ⟨q1, q2⟩
          · exact q
          · exfalso
            rcases List.mem_cons.mp q1 with e | q1
            · subst e; exact bet_irr q2
            · exact bet_as (hp1 j q1) q2
        · have e := i2 k ha
          rw [e, if_pos rfl]
          refine LF_cong (t := t) (fun j _ => Iff.rfl) (fun j hj q => ?_) (lfv_spec (and9 (h9 k ha10)))
          rw [Nat.testBit_and, Bool.and_eq_true] at q
          have hjl : j ∉ l := fun z => by
            have := hD j (List.mem_cons_of_mem _ z)
            rw [q.2] at this; cases this
          rw [i2 j hjl, if_neg (fun z => by
            subst z
            rw [q.2] at hDa; cases hDa)]
      · obtain ⟨E, e1, e2⟩ := i1 k hk'
        refine ⟨E, fun j => ?_, e2⟩
        rw [e1, orp_bit, Bool.or_eq_true, decide_eq_true_eq, List.mem_cons]
        refine ⟨fun q => ?_, fun q => ?_⟩
        · rcases q with (q | q) | q
          · exact Or.inl q
          · subst q; exact Or.inr ⟨Or.inl rfl, hp1 k hk'⟩
          · exact Or.inr ⟨Or.inr q.1, q.2⟩
        · rcases q with q | ⟨q1 | q1, q2⟩
          · exact Or.inl (Or.inl q)
          · exact Or.inl (Or.inr q1.symm)
          · exact Or.inr ⟨q1, q2⟩
    · rw [i2 j (fun q => hj (List.mem_cons_of_mem _ q))]
      exact if_neg (fun q => hj (by rw [q]; exact List.mem_cons_self))
theorem wkM_spec {n : Nat → Nat} {b : Bool} : ∀ (l : List Nat) (D : Nat) (t : Nat → Nat) (m : Nat), l.Pairwise (bet n b) → m ≤ wkM n l D t m ∧ (∀ k ∈ l, wkT n l D t k ≤ wkM n l D t m) ∧ (wkM n l D t m = m ∨ ∃ k ∈ l, wkT n l D t k = wkM n l D t m) ∧ (∀ j, j ∉ l → wkT n l D t j = t j) := by
  intro l
  induction l with
  | nil =>
    intro D t m _
    exact ⟨Nat.le_refl _, fun k hk => absurd hk List.not_mem_nil, Or.inl rfl, fun j _ => rfl⟩
  | cons a l ih =>
    intro D t m hp
    rw [List.pairwise_cons] at hp
    obtain ⟨hp1, hp2⟩ := hp
    have ha : a ∉ l := fun q => bet_irr (hp1 a q)
    rw [wkT, wkM]
    obtain ⟨i1, i2, i3, i4⟩ := ih (D ||| 2 ^ a) (fun j => if j = a then lfv (n a &&& D) t else t j) (max m (lfv (n a &&& D) t)) hp2
    have ea := i4 a ha
    rw [if_pos rfl] at ea
    refine ⟨by omega, fun k hk => ?_, ?_, fun j hj => ?_⟩
    · rcases List.mem_cons.mp hk with e | hk
      · subst e; rw [ea]; omega
      · exact i2 k hk
    · rcases i3 with i3 | ⟨k, hk, i3⟩
      · by_cases q : m ≤ lfv (n a &&& D) t
        · refine Or.inr ⟨a, List.mem_cons_self, ?_⟩
          rw [ea, i3]
          exact (Nat.max_eq_right q).symm
        · refine Or.inl ?_
          rw [i3]
          exact Nat.max_eq_left (by omega)
      · exact Or.inr ⟨k, List.mem_cons_of_mem _ hk, i3⟩
    · rw [i4 j (fun q => hj (List.mem_cons_of_mem _ q))]
      exact if_neg (fun q => hj (by rw [q]; exact List.mem_cons_self))
/-- the greatest tint of the countries below k -/
def mx9 (S : Nat) (T : Nat → Nat) : Nat → Nat
  | 0 => 0
  | k + 1 => if S.testBit k = true then max (mx9 S T k) (T k) else mx9 S T k
theorem mx9_ge {S : Nat} {T : Nat → Nat} : ∀ {m k : Nat}, k < m → S.testBit k = true → T k ≤ mx9 S T m := by
  intro m
  induction m with
  | zero => intro k h; exact absurd h (Nat.not_lt_zero k)
  | succ m ih =>
    intro k h hs
    rw [mx9]
    by_cases e : k = m
    · subst e; rw [if_pos hs]; exact Nat.le_max_right _ _
    · have := ih (by omega) hs
      split
      · omega
      · exact this
theorem mx9_le {S b : Nat} {T : Nat → Nat} : ∀ {m : Nat}, (∀ k, k < m → S.testBit k = true → T k ≤ b) → mx9 S T m ≤ b := by
  intro m
  induction m with
  | zero => intro _; exact Nat.zero_le _
  | succ m ih =>
    intro h
    rw [mx9]
    have := ih (fun k hk => h k (by omega))
    split
    · rename_i q
      have := h m (by omega) q
      omega
    · exact this
section ORW
variable {c t : Nat → Nat} {b : Bool}
noncomputable abbrev o9 (c : Nat → Nat) (b : Bool) (t : Nat → Nat) : Nat → Nat := wkT (ne_S c) (ord (ne_S c) (th_S c) b) 0 t
theorem o9_LF {k : Nat} (hk : k < 10) (hth : (th_S c).testBit k = true) : ∃ E, (∀ j, j < 10 → (ne_S c k).testBit j = true → (E.testBit j = true ↔ bet (ne_S c) b j k)) ∧ LF (ne_S c k &&& E) (o9 c b t) (o9 c b t k) := by
  have h9 : ∀ k, k < 10 → ct (ne_S c k).testBit 10 ≤ 9 := fun k hk => ne_9 c hk
  have g := gr_ne c
  obtain ⟨w1, w2⟩ := wk_spec (b := b) h9 (ord (ne_S c) (th_S c) b) 0 t ord_pw (fun k hk => ((ord_mem g.1 h9).mp hk).1) (fun k _ => Nat.zero_testBit k)
  obtain ⟨E, e1, e2⟩ := w1 k ((ord_mem g.1 h9).mpr ⟨hk, hth⟩)
  refine ⟨E, fun j hj hn => ?_, e2⟩
  rw [e1, Nat.zero_testBit]
  refine ⟨fun q => ?_, fun q => Or.inr ⟨(ord_mem g.1 h9).mpr ⟨hj, ne_th hj hn⟩, q⟩⟩
  rcases q with q | q
  · cases q
  · exact q.2
theorem o9_max : wkM (ne_S c) (ord (ne_S c) (th_S c) b) 0 t 0 = mx9 (th_S c) (o9 c b t) 10 := by
  have h9 : ∀ k, k < 10 → ct (ne_S c k).testBit 10 ≤ 9 := fun k hk => ne_9 c hk
  have g := gr_ne c
  obtain ⟨_, i2, i3, _⟩ := wkM_spec (b := b) (ord (ne_S c) (th_S c) b) 0 t 0 ord_pw
  refine Nat.le_antisymm ?_ (mx9_le (fun k hk hs => i2 k ((ord_mem g.1 h9).mpr ⟨hk, hs⟩)))
  rcases i3 with i3 | ⟨k, hk, i3⟩
  · rw [i3]; exact Nat.zero_le _
  · rw [← i3]
    have := (ord_mem g.1 h9).mp hk
    exact mx9_ge this.1 this.2
theorem o9_col : Col (ne_S c) (mx9 (th_S c) (o9 c b t) 10) (th_S c) (o9 c b t) := by
  refine ⟨fun i hi hs => ⟨?_, mx9_ge hi hs⟩, fun i j hi hj si sj hn => ?_⟩
  · obtain ⟨E, _, e⟩ := o9_LF (b := b) (t := t) hi hs
    exact e.1
  · have hij : i ≠ j := fun e => by
      subst e
      rw [(gr_ne c).2.2 i hi] at hn; cases hn
    have hn2 : (ne_S c j).testBit i = true := by rw [← (gr_ne c).2.1 i j hi hj]; exact hn
    rcases bet_tot (n := ne_S c) (b := b) hij with q | q
    · obtain ⟨E, e1, e⟩ := o9_LF (b := b) (t := t) hj sj
      exact fun z => e.2.2.1 ⟨i, hi, by rw [Nat.testBit_and, hn2, (e1 i hi hn2).mpr q]; rfl, z⟩
    · obtain ⟨E, e1, e⟩ := o9_LF (b := b) (t := t) hi si
      exact fun z => e.2.2.1 ⟨j, hj, by rw [Nat.testBit_and, hn, (e1 j hj hn).mpr q]; rfl, z.symm⟩
theorem col_tinted {m : Nat} {T : Nat → Nat} (h : Col (ne_S c) m (th_S c) T) : isTb c T 10 = true := by
  unfold isTb
  rw [Bool.and_eq_true, decide_eq_true_eq]
  refine ⟨sm_zero (fun k hk => ct_zero.mpr (fun j hj => ?_)), al_iff.mpr (fun k hk => ?_)⟩
  · unfold cE2
    cases e : (ne_S c k).testBit j
    · rfl
    · rw [Bool.true_and]
      refine decide_eq_false (fun q => ?_)
      have hj10 : j < 10 := by omega
      have sj := ne_th hj10 e
      have e2 : (ne_S c j).testBit k = true := by rw [← (gr_ne c).2.1 k j hk hj10]; exact e
      exact h.2 k j hk hj10 (ne_th hk e2) sj e q.2
  · cases e : (th_S c).testBit k
    · rfl
    · rw [Bool.not_true, Bool.false_or]
      exact decide_eq_true (by have := (h.1 k hk e).1; omega)
/-- with the fewest, in order: no tint leaves a lower one out -/
theorem best_step {f k : Nat} {bb : Nat → Nat} (hB : Best (ne_S c) f (th_S c) 0 (fun _ => 0) bb) (hk : k < 10) (hs : (th_S c).testBit k = true) : bb k ≤ mx9 (th_S c) bb k + 1 := by
  refine Nat.le_of_not_lt fun hlt => ?_
  refine no_more (n := ne_S c) (t := f) (S := th_S c) (k := k) (u := mx9 (th_S c) bb k) (a := bb) hk hs (fun i hi si => mx9_ge hi si) (fun col hc => ?_) bb ⟨hB.1.1, fun i _ _ => rfl⟩
  have hE : Ext (ne_S c) f (th_S c) 0 (fun _ => 0) col := ⟨hc.1, fun i hi _ => absurd hi (Nat.not_lt_zero i)⟩
  rcases hB.2 col hE with q | ⟨m, hm, sm', q1, q2⟩
  · rw [q k hk hs]; omega
  · rcases Nat.lt_trichotomy m k with z | z | z
    · have := hc.2 m z sm'
      omega
    · subst z; omega
    · rw [q1 k z hs]; omega
theorem best_max {f : Nat} {bb : Nat → Nat} (hf : Few c f) (hB : Best (ne_S c) f (th_S c) 0 (fun _ => 0) bb) : mx9 (th_S c) bb 10 = f := by
  refine Nat.le_antisymm (mx9_le (fun k hk hs => (hB.1.1.1 k hk hs).2)) (few_min hf.2.2 ?_)
  exact (rr_col (gr_ne c) _ _ (th_lt c)).mpr ⟨bb, fun i hi si => ⟨(hB.1.1.1 i hi si).1, mx9_ge hi si⟩, hB.1.1.2⟩
end ORW
