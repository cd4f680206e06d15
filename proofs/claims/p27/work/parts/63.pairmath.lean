/-! the pure side: tintings by pairs, the two laws that the counting rests on -/
def Cq (n : Nat → Nat) (s : Nat) : Prop := ∀ i j, i < 10 → j < 10 → s.testBit i = true → s.testBit j = true → i ≠ j → (n i).testBit j = true
/-- neighbours of one another within a set -/
def Sy (n : Nat → Nat) (S : Nat) : Prop := (∀ k, k < 10 → n k < 1024) ∧ (∀ i j, i < 10 → j < 10 → S.testBit i = true → S.testBit j = true → (n i).testBit j = (n j).testBit i) ∧ (∀ i, i < 10 → S.testBit i = true → (n i).testBit i = false)
theorem idb_eq {n m : Nat → Nat} {A B : Nat} (hA : A < 1024) (hB : B < 1024) (h : (∀ i j, i < 10 → j < 10 → A.testBit i = true → A.testBit j = true → i ≠ j → (n i).testBit j = false) ↔ (∀ i j, i < 10 → j < 10 → B.testBit i = true → B.testBit j = true → i ≠ j → (m i).testBit j = false)) : idb n A = idb m B := by
  rw [Bool.eq_iff_iff, idb_iff hA, idb_iff hB]
  exact h
theorem rr_cong {n m : Nat → Nat} : ∀ (t S : Nat), S < 1024 → (∀ i j, i < 10 → j < 10 → S.testBit i = true → S.testBit j = true → i ≠ j → (n i).testBit j = (m i).testBit j) → rr n t S = rr m t S := by
  intro t
  induction t with
  | zero => intro S _ _; rfl
  | succ t ih =>
    intro S hS h
    rw [rr, rr]
    refine sb_cong fun A hA => ?_
    have e : idb n A = idb m A := idb_eq hA.1 hA.1 ⟨fun q i j hi hj a b c => by rw [← h i j hi hj (hA.2 i a) (hA.2 j b) c]; exact q i j hi hj a b c, fun q i j hi hj a b c => by rw [h i j hi hj (hA.2 i a) (hA.2 j b) c]; exact q i j hi hj a b c⟩
    rw [e, ih (mi S A) (mi_lt (n := 10) hS) (fun i j hi hj a b c => by
      rw [mi_bit, Bool.and_eq_true] at a b
      exact h i j hi hj a.1 b.1 c)]
/-- with a pair made neighbours; with the second made one with the first -/
def isJ (n m : Nat → Nat) (u v S : Nat) : Prop := ∀ i j, i < 10 → j < 10 → S.testBit i = true → S.testBit j = true → i ≠ j → (m i).testBit j = ((n i).testBit j || decide ((i = u ∧ j = v) ∨ (i = v ∧ j = u)))
def isM (n m : Nat → Nat) (u v S : Nat) : Prop := ∀ i j, i < 10 → j < 10 → S.testBit i = true → S.testBit j = true → i ≠ j → i ≠ v → j ≠ v → (m i).testBit j = (if i = u then ((n u).testBit j || (n v).testBit j) else if j = u then ((n i).testBit u || (n i).testBit v) else (n i).testBit j)
theorem bor_f {a b : Bool} : (a || b) = false ↔ a = false ∧ b = false := by cases a <;> cases b <;> simp
theorem rr_pair {n m k : Nat → Nat} {u v : Nat} (hu : u < 10) (hv : v < 10) (huv : u ≠ v) : ∀ (t S : Nat), S < 1024 → S.testBit u = true → S.testBit v = true → (n u).testBit v = false → (n v).testBit u = false → isJ n m u v S → isM n k u v S → rr n t S = rr m t S + rr k t (mi S (2 ^ v)) := by
  intro t
  induction t with
  | zero =>
    intro S hS su sv _ _ _ _
    have h1 : S ≠ 0 := fun e => by rw [e, Nat.zero_testBit] at su; cases su
    have h2 : mi S (2 ^ v) ≠ 0 := fun e => by
      have := congrArg (fun x : Nat => x.testBit u) e
      simp only [mp_bit, su, decide_eq_false (Ne.symm huv), Nat.zero_testBit] at this
      cases this
    rw [rr_0 h1, rr_0 h1, rr_0 h2]
  | succ t ih =>
    intro S hS su sv n1 n2 hj hm
    have su2 : (mi S (2 ^ v)).testBit u = true := by rw [mp_bit, su, decide_eq_false (Ne.symm huv)]; rfl
    rw [rr, rr, rr, sb_splitv 10 _ hv sv, sb_splitv 10 _ hv sv, sb_splitv 10 (fun A => if idb n A = true then rr n t (mi S A) else 0) hu su2, sb_splitv 10 (fun A => if idb n (A ||| 2 ^ v) = true then rr n t (mi S (A ||| 2 ^ v)) else 0) hu su2, sb_splitv 10 (fun A => if idb m A = true then rr m t (mi S A) else 0) hu su2, sb_splitv 10 (fun A => if idb m (A ||| 2 ^ v) = true then rr m t (mi S (A ||| 2 ^ v)) else 0) hu su2, sb_splitv 10 (fun A => if idb k A = true then rr k t (mi (mi S (2 ^ v)) A) else 0) hu su2]
    have facts : ∀ A, inS A (mi (mi S (2 ^ v)) (2 ^ u)) 10 → A < 1024 ∧ A.testBit u = false ∧ A.testBit v = false ∧ ∀ i, A.testBit i = true → S.testBit i = true := fun A hA => by
      refine ⟨hA.1, inS_v hA, ?_, fun i a => ?_⟩
      · refine bfalse fun a => ?_
        have := hA.2 v a
        rw [mi_bit, mp_bit, decide_eq_true rfl, Bool.not_true, Bool.and_false, Bool.false_and] at this
        cases this
      · have := hA.2 i a
        rw [mi_bit, mi_bit, Bool.and_eq_true, Bool.and_eq_true] at this
        exact this.1.1
    have nv : ∀ {A i w : Nat}, A.testBit w = false → A.testBit i = true → i ≠ w := fun {A i w} h1 h2 e => by rw [e, h1] at h2; cases h2
    have e1 : sb (mi (mi S (2 ^ v)) (2 ^ u)) 10 (fun A => if idb n A = true then rr n t (mi S A) else 0) = sb (mi (mi S (2 ^ v)) (2 ^ u)) 10 (fun A => if idb m A = true then rr m t (mi S A) else 0) + sb (mi (mi S (2 ^ v)) (2 ^ u)) 10 (fun A => if idb k A = true then rr k t (mi (mi S (2 ^ v)) A) else 0) := by
      rw [← sb_add]
      refine sb_cong fun A hA => ?_
      obtain ⟨a1, a2, a3, a4⟩ := facts A hA
      have i1 : idb n A = idb m A := idb_eq a1 a1 ⟨fun q i j hi hj2 a b c => by
        rw [hj i j hi hj2 (a4 i a) (a4 j b) c, q i j hi hj2 a b c, decide_eq_false (fun z => by
          rcases z with z | z
          · exact nv a2 a z.1
          · exact nv a3 a z.1)]
        rfl, fun q i j hi hj2 a b c => by
        have := q i j hi hj2 a b c
        rw [hj i j hi hj2 (a4 i a) (a4 j b) c, bor_f] at this
        exact this.1⟩
      have i2 : idb n A = idb k A := idb_eq a1 a1 ⟨fun q i j hi hj2 a b c => by
        rw [hm i j hi hj2 (a4 i a) (a4 j b) c (nv a3 a) (nv a3 b), if_neg (nv a2 a), if_neg (nv a2 b)]
        exact q i j hi hj2 a b c, fun q i j hi hj2 a b c => by
        have := q i j hi hj2 a b c
        rw [hm i j hi hj2 (a4 i a) (a4 j b) c (nv a3 a) (nv a3 b), if_neg (nv a2 a), if_neg (nv a2 b)] at this
        exact this⟩
      rw [← i1, ← i2]
      by_cases q : idb n A = true
      · rw [if_pos q, if_pos q, if_pos q, mi_sw S (2 ^ v) A]
        have sub : ∀ i, (mi S A).testBit i = true → S.testBit i = true := fun i a => by
          rw [mi_bit, Bool.and_eq_true] at a
          exact a.1
        exact ih (mi S A) (mi_lt (n := 10) hS) (by rw [mi_bit, su, a2]; rfl) (by rw [mi_bit, sv, a3]; rfl) n1 n2 (fun i j hi hj2 a b c => hj i j hi hj2 (sub i a) (sub j b) c) (fun i j hi hj2 a b c d e => hm i j hi hj2 (sub i a) (sub j b) c d e)
      · rw [if_neg q, if_neg q, if_neg q]
    have same : ∀ (A w x : Nat), A < 1024 → A.testBit x = false → ((w = u ∧ x = v) ∨ (w = v ∧ x = u)) → (∀ i, A.testBit i = true → S.testBit i = true) → A.testBit w = true → (if idb n A = true then rr n t (mi S A) else 0) = (if idb m A = true then rr m t (mi S A) else 0) := fun A w x a1 a2 hwx a4 aw => by
      have i1 : idb n A = idb m A := idb_eq a1 a1 ⟨fun q i j hi hj2 a b c => by
        rw [hj i j hi hj2 (a4 i a) (a4 j b) c, q i j hi hj2 a b c, decide_eq_false (fun z => by
          have q1 := nv a2 a
          have q2 := nv a2 b
          omega)]
        rfl, fun q i j hi hj2 a b c => by
        have := q i j hi hj2 a b c
        rw [hj i j hi hj2 (a4 i a) (a4 j b) c, bor_f] at this
        exact this.1⟩
      rw [i1, rr_cong (m := m) t (mi S A) (mi_lt (n := 10) hS) (fun i j hi hj2 a b c => by
        rw [mi_bit, Bool.and_eq_true, Bool.not_eq_true'] at a b
        rw [hj i j hi hj2 a.1 b.1 c, decide_eq_false (fun z => by
          have q1 : i ≠ w := fun e => by rw [e, aw] at a; exact absurd a.2 (by decide)
          have q2 : j ≠ w := fun e => by rw [e, aw] at b; exact absurd b.2 (by decide)
          omega), Bool.or_false])]
    have e2 : sb (mi (mi S (2 ^ v)) (2 ^ u)) 10 (fun A => if idb n (A ||| 2 ^ u) = true then rr n t (mi S (A ||| 2 ^ u)) else 0) = sb (mi (mi S (2 ^ v)) (2 ^ u)) 10 (fun A => if idb m (A ||| 2 ^ u) = true then rr m t (mi S (A ||| 2 ^ u)) else 0) := sb_cong fun A hA => by
      obtain ⟨a1, a2, a3, a4⟩ := facts A hA
      refine same (A ||| 2 ^ u) u v (or_lt (n := 10) a1 (pow_lt10 hu)) (by rw [orp_bit, a3, decide_eq_false huv]; rfl) (Or.inl ⟨rfl, rfl⟩) (fun i a => ?_) (by rw [orp_bit, decide_eq_true rfl, Bool.or_true])
      rw [orp_bit, Bool.or_eq_true, decide_eq_true_iff] at a
      rcases a with a | rfl
      · exact a4 i a
      · exact su
    have e3 : sb (mi (mi S (2 ^ v)) (2 ^ u)) 10 (fun A => if idb n (A ||| 2 ^ v) = true then rr n t (mi S (A ||| 2 ^ v)) else 0) = sb (mi (mi S (2 ^ v)) (2 ^ u)) 10 (fun A => if idb m (A ||| 2 ^ v) = true then rr m t (mi S (A ||| 2 ^ v)) else 0) := sb_cong fun A hA => by
      obtain ⟨a1, a2, a3, a4⟩ := facts A hA
      refine same (A ||| 2 ^ v) v u (or_lt (n := 10) a1 (pow_lt10 hv)) (by rw [orp_bit, a2, decide_eq_false (Ne.symm huv)]; rfl) (Or.inr ⟨rfl, rfl⟩) (fun i a => ?_) (by rw [orp_bit, decide_eq_true rfl, Bool.or_true])
      rw [orp_bit, Bool.or_eq_true, decide_eq_true_iff] at a
      rcases a with a | rfl
      · exact a4 i a
      · exact sv
    have e4 : sb (mi (mi S (2 ^ v)) (2 ^ u)) 10 (fun A => if idb m (A ||| 2 ^ u ||| 2 ^ v) = true then rr m t (mi S (A ||| 2 ^ u ||| 2 ^ v)) else 0) = 0 := sb_z' fun A hA => by
      obtain ⟨a1, a2, a3, a4⟩ := facts A hA
      have hl : A ||| 2 ^ u ||| 2 ^ v < 1024 := or_lt (n := 10) (or_lt (n := 10) a1 (pow_lt10 hu)) (pow_lt10 hv)
      rw [if_neg (fun z => ?_)]
      have := (idb_iff hl).mp z u v hu hv (by rw [orp_bit, orp_bit, decide_eq_true (p := u = u) rfl]; simp) (by rw [orp_bit, decide_eq_true (p := v = v) rfl]; simp) huv
      rw [hj u v hu hv su sv huv, decide_eq_true (Or.inl ⟨rfl, rfl⟩), Bool.or_true] at this
      cases this
    have e5 : sb (mi (mi S (2 ^ v)) (2 ^ u)) 10 (fun A => if idb n (A ||| 2 ^ u ||| 2 ^ v) = true then rr n t (mi S (A ||| 2 ^ u ||| 2 ^ v)) else 0) = sb (mi (mi S (2 ^ v)) (2 ^ u)) 10 (fun A => if idb k (A ||| 2 ^ u) = true then rr k t (mi (mi S (2 ^ v)) (A ||| 2 ^ u)) else 0) := sb_cong fun A hA => by
      obtain ⟨a1, a2, a3, a4⟩ := facts A hA
      have hl1 : A ||| 2 ^ u < 1024 := or_lt (n := 10) a1 (pow_lt10 hu)
      have hl : A ||| 2 ^ u ||| 2 ^ v < 1024 := or_lt (n := 10) hl1 (pow_lt10 hv)
      have b1 : ∀ i, (A ||| 2 ^ u).testBit i = true ↔ (A.testBit i = true ∨ u = i) := fun i => by rw [orp_bit, Bool.or_eq_true, decide_eq_true_iff]
      have b2 : ∀ i, (A ||| 2 ^ u ||| 2 ^ v).testBit i = true ↔ ((A.testBit i = true ∨ u = i) ∨ v = i) := fun i => by rw [orp_bit, Bool.or_eq_true, decide_eq_true_iff, b1]
      have inS1 : ∀ i, (A ||| 2 ^ u).testBit i = true → S.testBit i = true ∧ i ≠ v := fun i a => by
        rcases (b1 i).mp a with a | rfl
        · exact ⟨a4 i a, nv a3 a⟩
        · exact ⟨su, huv⟩
      have i1 : idb n (A ||| 2 ^ u ||| 2 ^ v) = idb k (A ||| 2 ^ u) := by
        refine idb_eq hl hl1 ⟨fun q i j hi hj2 a b c => ?_, fun q i j hi hj2 a b c => ?_⟩
        · obtain ⟨s1, s2⟩ := inS1 i a
          obtain ⟨s3, s4⟩ := inS1 j b
          have ai := (b2 i).mpr (Or.inl ((b1 i).mp a))
          have aj := (b2 j).mpr (Or.inl ((b1 j).mp b))
          have av := (b2 v).mpr (Or.inr rfl)
          rw [hm i j hi hj2 s1 s3 c s2 s4]
          by_cases z : i = u
          · rw [if_pos z, bor_f]
            subst z
            exact ⟨q i j hi hj2 ai aj c, q v j hv hj2 av aj (Ne.symm s4)⟩
          · rw [if_neg z]
            by_cases y : j = u
            · rw [if_pos y, bor_f]
              subst y
              exact ⟨q i j hi hj2 ai aj c, q i v hi hv ai av s2⟩
            · rw [if_neg y]
              exact q i j hi hj2 ai aj c
        · rw [b2] at a b
          have au := (b1 u).mpr (Or.inr rfl)
          by_cases zi : i = v
          · subst zi
            by_cases zj : j = u
            · subst zj; exact n2
            · have aj : (A ||| 2 ^ u).testBit j = true := by
                rcases b with b | b
                · exact (b1 j).mpr b
                · exact absurd b c
              obtain ⟨s3, s4⟩ := inS1 j aj
              have := q u j hu hj2 au aj (Ne.symm zj)
              rw [hm u j hu hj2 su s3 (Ne.symm zj) huv s4, if_pos rfl, bor_f] at this
              exact this.2
          · have ai : (A ||| 2 ^ u).testBit i = true := by
              rcases a with a | a
              · exact (b1 i).mpr a
              · exact absurd a.symm zi
            obtain ⟨s1, s2⟩ := inS1 i ai
            by_cases zj : j = v
            · subst zj
              by_cases y : i = u
              · subst y; exact n1
              · have := q i u hi hu ai au y
                rw [hm i u hi hu s1 su y s2 huv, if_neg y, if_pos rfl, bor_f] at this
                exact this.2
            · have aj : (A ||| 2 ^ u).testBit j = true := by
                rcases b with b | b
                · exact (b1 j).mpr b
                · exact absurd b.symm zj
              obtain ⟨s3, s4⟩ := inS1 j aj
              have := q i j hi hj2 ai aj c
              rw [hm i j hi hj2 s1 s3 c s2 s4] at this
              by_cases y : i = u
              · rw [if_pos y, bor_f] at this
                subst y; exact this.1
              · rw [if_neg y] at this
                by_cases x : j = u
                · rw [if_pos x, bor_f] at this
                  subst x; exact this.1
                · rw [if_neg x] at this
                  exact this
      have es : mi S (A ||| 2 ^ u ||| 2 ^ v) = mi (mi S (2 ^ v)) (A ||| 2 ^ u) := by rw [mi_or, mi_sw]
      rw [i1, es, rr_cong (m := k) t (mi (mi S (2 ^ v)) (A ||| 2 ^ u)) (mi_lt (n := 10) (mi_lt (n := 10) hS)) (fun i j hi hj2 a b c => ?_)]
      rw [mi_bit, Bool.and_eq_true, mp_bit, Bool.and_eq_true, Bool.not_eq_true', Bool.not_eq_true', decide_eq_false_iff_not] at a b
      have iu : i ≠ u := fun e => by
        have := (b1 i).mpr (Or.inr e.symm)
        rw [this] at a
        exact absurd a.2 (by decide)
      have ju : j ≠ u := fun e => by
        have := (b1 j).mpr (Or.inr e.symm)
        rw [this] at b
        exact absurd b.2 (by decide)
      rw [hm i j hi hj2 a.1.1 b.1.1 c (Ne.symm a.1.2) (Ne.symm b.1.2), if_neg iu, if_neg ju]
    rw [e1, e2, e3, e4, e5]
    omega
theorem ct_one {p q : Nat → Bool} {w : Nat} : ∀ {n : Nat}, w < n → (∀ k, k < n → k ≠ w → p k = q k) → p w = true → q w = false → ct p n = ct q n + 1
  | 0, h, _, _, _ => absurd h (Nat.not_lt_zero w)
  | n + 1, h, e, h1, h2 => by
    rw [ct, ct]
    rcases Nat.lt_succ_iff_lt_or_eq.mp h with h3 | rfl
    · rw [ct_one h3 (fun k hk q => e k (by omega) q) h1 h2, e n (by omega) (by omega)]
      omega
    · rw [ct_cong (fun k hk => e k (by omega) (by omega)), h1, h2]
      rfl
/-- a country whose neighbours are all neighbours of one another -/
theorem rr_last {n : Nat → Nat} {v : Nat} (hv : v < 10) : ∀ (t S : Nat), S < 1024 → S.testBit v = true → Sy n S → Cq n (n v &&& S) → rr n t S + pc (n v &&& S) * rr n t (mi S (2 ^ v)) = t * rr n t (mi S (2 ^ v)) := by
  intro t
  induction t with
  | zero =>
    intro S hS sv sy _
    have h1 : S ≠ 0 := fun e => by rw [e, Nat.zero_testBit] at sv; cases sv
    rw [rr_0 h1, Nat.zero_mul, Nat.zero_add]
    by_cases q : mi S (2 ^ v) = 0
    · have : n v &&& S = 0 := by
        refine (set_zero (n := 10) (and_lt (n := 10) (sy.1 v hv))).mpr fun j hj => ?_
        rw [Nat.testBit_and]
        by_cases e : v = j
        · subst e; rw [sy.2.2 v hv sv]; rfl
        · have := congrArg (fun x : Nat => x.testBit j) q
          simp only [mp_bit, decide_eq_false e, Bool.not_false, Bool.and_true, Nat.zero_testBit] at this
          rw [this, Bool.and_false]
      rw [this]
      have z : pc 0 = 0 := by decide +kernel
      rw [z, Nat.zero_mul]
    · rw [rr_0 q, Nat.mul_zero]
  | succ t ih =>
    intro S hS sv sy hq
    rw [rr, rr, sb_splitv 10 _ hv sv, ← sb_mul, ← sb_mul, ← sb_add, ← sb_add]
    refine sb_cong fun A hA => ?_
    have av := inS_v hA
    have a1 : A < 1024 := hA.1
    have a4 : ∀ i, A.testBit i = true → S.testBit i = true := fun i a => by
      have := hA.2 i a
      rw [mp_bit, Bool.and_eq_true] at this
      exact this.1
    have nev : ∀ i, A.testBit i = true → i ≠ v := fun i a e => by rw [e, av] at a; cases a
    have hl : A ||| 2 ^ v < 1024 := or_lt (n := 10) a1 (pow_lt10 hv)
    have b1 : ∀ i, (A ||| 2 ^ v).testBit i = true ↔ (A.testBit i = true ∨ v = i) := fun i => by rw [orp_bit, Bool.or_eq_true, decide_eq_true_iff]
    by_cases q : idb n A = true
    · rw [if_pos q, if_pos q, mi_or S A (2 ^ v), mi_sw S A (2 ^ v)]
      have q' := (idb_iff a1).mp q
      have sub : ∀ i, (mi S A).testBit i = true → S.testBit i = true := fun i a => by
        rw [mi_bit, Bool.and_eq_true] at a
        exact a.1
      have sub2 : ∀ i, (n v &&& mi S A).testBit i = true → (n v &&& S).testBit i = true := fun i a => by
        rw [Nat.testBit_and, Bool.and_eq_true] at a ⊢
        exact ⟨a.1, sub i a.2⟩
      have h := ih (mi S A) (mi_lt (n := 10) hS) (by rw [mi_bit, sv, av]; rfl) ⟨sy.1, fun i j hi hj a b => sy.2.1 i j hi hj (sub i a) (sub j b), fun i hi a => sy.2.2 i hi (sub i a)⟩ (fun i j hi hj a b c => hq i j hi hj (sub2 i a) (sub2 j b) c)
      rw [mi_sw S A (2 ^ v)] at h
      have hnv : n v &&& S < 1024 := and_lt (n := 10) (sy.1 v hv)
      have hnv2 : n v &&& mi S A < 1024 := and_lt (n := 10) (sy.1 v hv)
      by_cases z : n v &&& A = 0
      · have z' : ∀ i, A.testBit i = true → (n v).testBit i = false := fun i a => by
          have := congrArg (fun x : Nat => x.testBit i) z
          simp only [Nat.testBit_and, a, Bool.and_true, Nat.zero_testBit] at this
          exact this
        have i1 : idb n (A ||| 2 ^ v) = true := (idb_iff hl).mpr fun i j hi hj a b c => by
          rcases (b1 i).mp a with a | rfl
          · rcases (b1 j).mp b with b | rfl
            · exact q' i j hi hj a b c
            · rw [sy.2.1 i v hi hv (a4 i a) sv]; exact z' i a
          · rcases (b1 j).mp b with b | rfl
            · exact z' j b
            · exact absurd rfl c
        have ed : n v &&& mi S A = n v &&& S := set_eq (n := 10) hnv2 hnv (fun i hi => by
          rw [Nat.testBit_and, Nat.testBit_and, mi_bit]
          cases a : A.testBit i with
          | true => rw [z' i a]; rfl
          | false => rw [Bool.not_false, Bool.and_true])
        rw [if_pos i1]
        rw [ed] at h
        rw [Nat.succ_mul]
        omega
      · obtain ⟨w, hw, hw2⟩ := (set_ne0 (n := 10) (and_lt (n := 10) (sy.1 v hv))).mp z
        rw [Nat.testBit_and, Bool.and_eq_true] at hw2
        have i1 : ¬ idb n (A ||| 2 ^ v) = true := fun y => by
          have := (idb_iff hl).mp y v w hv hw ((b1 v).mpr (Or.inr rfl)) ((b1 w).mpr (Or.inl hw2.2)) (Ne.symm (nev w hw2.2))
          rw [hw2.1] at this
          cases this
        have ed : pc (n v &&& S) = pc (n v &&& mi S A) + 1 := by
          rw [pc_n (n := 10) hnv (by decide), pc_n (n := 10) hnv2 (by decide)]
          refine ct_one hw (fun i hi c => ?_) ?_ ?_
          · rw [Nat.testBit_and, Nat.testBit_and, mi_bit]
            cases a : A.testBit i with
            | false => rw [Bool.not_false, Bool.and_true]
            | true =>
              cases b : (n v).testBit i with
              | false => rfl
              | true =>
                have k1 := hq i w hi hw (by rw [Nat.testBit_and, b, a4 i a]; rfl) (by rw [Nat.testBit_and, hw2.1, a4 w hw2.2]; rfl) c
                rw [q' i w hi hw a hw2.2 c] at k1
                cases k1
          · rw [Nat.testBit_and, hw2.1, a4 w hw2.2]; rfl
          · rw [Nat.testBit_and, mi_bit, hw2.2]; simp
        rw [if_neg i1, ed, Nat.succ_mul, Nat.succ_mul]
        omega
    · have i1 : ¬ idb n (A ||| 2 ^ v) = true := fun y => q ((idb_iff a1).mpr fun i j hi hj a b c => (idb_iff hl).mp y i j hi hj ((b1 i).mpr (Or.inl a)) ((b1 j).mpr (Or.inl b)) c)
      rw [if_neg q, if_neg q, if_neg i1, Nat.mul_zero, Nat.mul_zero]
