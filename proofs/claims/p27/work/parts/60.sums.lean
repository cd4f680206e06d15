/-! the pure side: sums over the subsets of a set, and how many tintings -/
theorem sm_split (f : Nat → Nat) (a : Nat) : ∀ b, sm f (a + b) = sm f a + sm (fun i => f (a + i)) b
  | 0 => rfl
  | b + 1 => by
    show sm f (a + b) + f (a + b) = sm f a + (sm (fun i => f (a + i)) b + f (a + b))
    rw [sm_split f a b, Nat.add_assoc]
theorem sm_zero {f : Nat → Nat} : ∀ {n : Nat}, (∀ k, k < n → f k = 0) → sm f n = 0
  | 0, _ => rfl
  | n + 1, h => by rw [sm, sm_zero (fun k hk => h k (by omega)), h n (by omega)]
/-- the sum over all subsets of the first n of a set -/
def sb (S : Nat) : Nat → (Nat → Nat) → Nat
  | 0, h => h 0
  | n + 1, h => sb S n h + (if S.testBit n = true then sb S n (fun A => h (A ||| 2 ^ n)) else 0)
theorem mi0_iff {A S n : Nat} (hA : A < 2 ^ n) : mi A S = 0 ↔ ∀ i, i < n → A.testBit i = true → S.testBit i = true := by
  rw [set_zero (n := n) (mi_lt hA)]
  constructor
  · intro h i hi a
    have := h i hi
    rw [mi_bit, a, Bool.true_and] at this
    cases q : S.testBit i with
    | true => rfl
    | false => rw [q] at this; cases this
  · intro h i hi
    rw [mi_bit]
    cases a : A.testBit i with
    | false => rfl
    | true => rw [h i hi a]; rfl
theorem sb_lin {S : Nat} : ∀ (n : Nat) (h : Nat → Nat), sm (fun A => if mi A S = 0 then h A else 0) (2 ^ n) = sb S n h
  | 0, h => by
    show 0 + (if mi 0 S = 0 then h 0 else 0) = h 0
    have : mi 0 S = 0 := by unfold mi; rw [Nat.zero_and]; rfl
    rw [if_pos this, Nat.zero_add]
  | n + 1, h => by
    rw [show 2 ^ (n + 1) = 2 ^ n + 2 ^ n from by rw [Nat.pow_succ]; omega, sm_split, sb_lin n h, sb]
    congr 1
    have key : ∀ i, i < 2 ^ n → (mi (2 ^ n + i) S = 0 ↔ S.testBit n = true ∧ mi i S = 0) := fun i hi => by
      rw [← orp_add hi, mi0_iff (n := n + 1) (or_lt (Nat.lt_of_lt_of_le hi (Nat.pow_le_pow_right (by decide) (by omega))) (Nat.pow_lt_pow_right (by decide) (by omega))), mi0_iff (n := n) hi]
      constructor
      · intro h
        exact ⟨h n (by omega) (by rw [orp_bit, decide_eq_true rfl, Bool.or_true]), fun j hj a => h j (by omega) (by rw [orp_bit, a]; rfl)⟩
      · rintro ⟨h1, h2⟩ j hj a
        rw [orp_bit, Bool.or_eq_true, decide_eq_true_iff] at a
        rcases a with a | rfl
        · exact h2 j (bit_lt hi a) a
        · exact h1
    by_cases q : S.testBit n = true
    · rw [if_pos q, ← sb_lin n (fun A => h (A ||| 2 ^ n))]
      refine sm_cong fun i hi => ?_
      by_cases z : mi i S = 0
      · rw [if_pos z, if_pos ((key i hi).mpr ⟨q, z⟩), orp_add hi]
      · rw [if_neg z, if_neg (fun y => z ((key i hi).mp y).2)]
    · rw [if_neg q]
      exact sm_zero fun i hi => if_neg (fun y => q ((key i hi).mp y).1)
theorem sb_congS {S T : Nat} : ∀ (n : Nat) (h : Nat → Nat), (∀ i, i < n → S.testBit i = T.testBit i) → sb S n h = sb T n h
  | 0, _, _ => rfl
  | n + 1, h, e => by
    rw [sb, sb, sb_congS n h (fun i hi => e i (by omega)), sb_congS n _ (fun i hi => e i (by omega)), e n (by omega)]
/-- A lies within the first n of S -/
def inS (A S n : Nat) : Prop := A < 2 ^ n ∧ ∀ i, A.testBit i = true → S.testBit i = true
theorem inS_up {A S n : Nat} (h : inS A S n) : inS A S (n + 1) := ⟨Nat.lt_of_lt_of_le h.1 (Nat.pow_le_pow_right (by decide) (by omega)), h.2⟩
theorem inS_or {A S n : Nat} (h : inS A S n) (hn : S.testBit n = true) : inS (A ||| 2 ^ n) S (n + 1) := by
  refine ⟨or_lt (inS_up h).1 (Nat.pow_lt_pow_right (by decide) (by omega)), fun i a => ?_⟩
  rw [orp_bit, Bool.or_eq_true, decide_eq_true_iff] at a
  rcases a with a | rfl
  · exact h.2 i a
  · exact hn
theorem inS_0 (S n : Nat) : inS 0 S n := ⟨Nat.two_pow_pos n, fun i a => by rw [Nat.zero_testBit] at a; cases a⟩
theorem sb_cong {S : Nat} : ∀ {n : Nat} {h g : Nat → Nat}, (∀ A, inS A S n → h A = g A) → sb S n h = sb S n g
  | 0, h, g, e => e 0 (inS_0 S 0)
  | n + 1, h, g, e => by
    rw [sb, sb, sb_cong (fun A a => e A (inS_up a))]
    congr 1
    by_cases q : S.testBit n = true
    · rw [if_pos q, if_pos q]
      exact sb_cong (fun A a => e _ (inS_or a q))
    · rw [if_neg q, if_neg q]
theorem sb_le {S : Nat} : ∀ {n : Nat} {h g : Nat → Nat}, (∀ A, inS A S n → h A ≤ g A) → sb S n h ≤ sb S n g
  | 0, h, g, e => e 0 (inS_0 S 0)
  | n + 1, h, g, e => by
    rw [sb, sb]
    have h1 := sb_le (S := S) (n := n) (fun A a => e A (inS_up a))
    by_cases q : S.testBit n = true
    · rw [if_pos q, if_pos q]
      exact Nat.add_le_add h1 (sb_le (fun A a => e _ (inS_or a q)))
    · rw [if_neg q, if_neg q]
      exact h1
theorem sb_add {S : Nat} : ∀ (n : Nat) (h g : Nat → Nat), sb S n (fun A => h A + g A) = sb S n h + sb S n g
  | 0, _, _ => rfl
  | n + 1, h, g => by
    rw [sb, sb, sb, sb_add n h g, sb_add n (fun A => h (A ||| 2 ^ n)) (fun A => g (A ||| 2 ^ n))]
    split <;> omega
theorem sb_mul {S : Nat} (a : Nat) : ∀ (n : Nat) (h : Nat → Nat), sb S n (fun A => a * h A) = a * sb S n h
  | 0, _ => rfl
  | n + 1, h => by
    rw [sb, sb, sb_mul a n h, sb_mul a n (fun A => h (A ||| 2 ^ n)), Nat.mul_add]
    split
    · rfl
    · rw [Nat.mul_zero]
theorem sb_z (S n : Nat) : sb S n (fun _ => 0) = 0 := by
  have := sb_mul (S := S) 0 n (fun _ => 0)
  exact this.trans (Nat.zero_mul _)
theorem sb_z' {S n : Nat} {h : Nat → Nat} (e : ∀ A, inS A S n → h A = 0) : sb S n h = 0 := (sb_cong e).trans (sb_z S n)
theorem sb_ne0 {S : Nat} : ∀ {n : Nat} {h : Nat → Nat}, sb S n h ≠ 0 ↔ ∃ A, inS A S n ∧ h A ≠ 0
  | 0, h => by
    constructor
    · intro q; exact ⟨0, inS_0 S 0, q⟩
    · rintro ⟨A, ⟨a, _⟩, q⟩
      have : A = 0 := by
        have : (2 : Nat) ^ 0 = 1 := rfl
        omega
      subst this
      exact q
  | n + 1, h => by
    rw [sb]
    constructor
    · intro q
      by_cases z : sb S n h = 0
      · rw [z, Nat.zero_add] at q
        by_cases y : S.testBit n = true
        · rw [if_pos y] at q
          obtain ⟨A, a, b⟩ := sb_ne0.mp q
          exact ⟨_, inS_or a y, b⟩
        · rw [if_neg y] at q
          exact absurd rfl q
      · obtain ⟨A, a, b⟩ := sb_ne0.mp z
        exact ⟨A, inS_up a, b⟩
    · rintro ⟨A, ⟨a, b⟩, q⟩
      by_cases z : A.testBit n = true
      · have y := b n z
        rw [if_pos y]
        have e : mi A (2 ^ n) ||| 2 ^ n = A := by
          refine Nat.eq_of_testBit_eq fun i => ?_
          rw [orp_bit, mp_bit]
          by_cases w : n = i
          · subst w; rw [decide_eq_true rfl, z]; rfl
          · rw [decide_eq_false w, Bool.or_false, Bool.not_false, Bool.and_true]
        have h2 : sb S n (fun A => h (A ||| 2 ^ n)) ≠ 0 := sb_ne0.mpr ⟨mi A (2 ^ n), ⟨?_, fun i w => ?_⟩, by show h (mi A (2 ^ n) ||| 2 ^ n) ≠ 0; rw [e]; exact q⟩
        · omega
        · apply Nat.lt_pow_two_of_testBit
          intro i hi
          rw [mp_bit]
          by_cases w : n = i
          · rw [decide_eq_true w, Bool.not_true, Bool.and_false]
          · rw [Nat.testBit_lt_two_pow (Nat.lt_of_lt_of_le a (Nat.pow_le_pow_right (by decide) (by omega)))]
            rfl
        · rw [mp_bit, Bool.and_eq_true] at w
          exact b i w.1
      · have hA : A < 2 ^ n := by
          apply Nat.lt_pow_two_of_testBit
          intro i hi
          by_cases w : n = i
          · subst w; exact bfalse z
          · exact Nat.testBit_lt_two_pow (Nat.lt_of_lt_of_le a (Nat.pow_le_pow_right (by decide) (by omega)))
        have h2 : sb S n h ≠ 0 := sb_ne0.mpr ⟨A, ⟨hA, b⟩, q⟩
        omega
theorem or_sw (A x y : Nat) : (A ||| x) ||| y = (A ||| y) ||| x := by
  rw [Nat.or_assoc, Nat.or_comm x y, ← Nat.or_assoc]
theorem sb_splitv {S v : Nat} : ∀ (n : Nat) (h : Nat → Nat), v < n → S.testBit v = true → sb S n h = sb (mi S (2 ^ v)) n h + sb (mi S (2 ^ v)) n (fun A => h (A ||| 2 ^ v))
  | 0, _, hv, _ => absurd hv (Nat.not_lt_zero v)
  | n + 1, h, hv, hS => by
    rcases Nat.lt_succ_iff_lt_or_eq.mp hv with hv2 | rfl
    · have e : (mi S (2 ^ v)).testBit n = S.testBit n := by rw [mp_bit, decide_eq_false (by omega), Bool.not_false, Bool.and_true]
      have f : (fun A => h ((A ||| 2 ^ v) ||| 2 ^ n)) = (fun A => h ((A ||| 2 ^ n) ||| 2 ^ v)) := funext fun A => by rw [or_sw]
      rw [sb, sb, sb, e, sb_splitv n h hv2 hS, sb_splitv n (fun A => h (A ||| 2 ^ n)) hv2 hS, f]
      split <;> omega
    · have e : (mi S (2 ^ v)).testBit v = false := by rw [mp_bit, decide_eq_true rfl, Bool.not_true, Bool.and_false]
      have e2 : ∀ g, sb S v g = sb (mi S (2 ^ v)) v g := fun g => sb_congS v g (fun i hi => by rw [mp_bit, decide_eq_false (by omega), Bool.not_false, Bool.and_true])
      rw [sb, sb, sb, e, if_pos hS, if_neg (by decide), if_neg (by decide), Nat.add_zero, Nat.add_zero, e2, e2]
/-- pairs of disjoint subsets, taken in either order -/
theorem sb_swap {S : Nat} : ∀ (n : Nat) (h : Nat → Nat → Nat), sb S n (fun A => sb (mi S A) n (fun B => h A B)) = sb S n (fun B => sb (mi S B) n (fun A => h A B))
  | 0, _ => rfl
  | n + 1, h => by
    have lo : ∀ (A : Nat) (g : Nat → Nat), inS A S n → sb (mi S A) (n + 1) g = sb (mi S A) n g + (if S.testBit n = true then sb (mi S A) n (fun B => g (B ||| 2 ^ n)) else 0) := fun A g hA => by
      rw [sb, mi_bit, Nat.testBit_lt_two_pow hA.1, Bool.not_false, Bool.and_true]
    have hi : ∀ (A : Nat) (g : Nat → Nat), inS A S n → sb (mi S (A ||| 2 ^ n)) (n + 1) g = sb (mi S A) n g := fun A g hA => by
      rw [sb, mi_bit, orp_bit, decide_eq_true rfl, Bool.or_true, Bool.not_true, Bool.and_false, if_neg (by decide), Nat.add_zero]
      exact sb_congS n g (fun i hi => by rw [mi_bit, mi_bit, orp_bit, decide_eq_false (by omega), Bool.or_false])
    have side : ∀ k : Nat → Nat → Nat, sb S (n + 1) (fun A => sb (mi S A) (n + 1) (fun B => k A B)) = sb S n (fun A => sb (mi S A) n (fun B => k A B)) + (if S.testBit n = true then sb S n (fun A => sb (mi S A) n (fun B => k A (B ||| 2 ^ n))) + sb S n (fun A => sb (mi S A) n (fun B => k (A ||| 2 ^ n) B)) else 0) := fun k => by
      rw [sb]
      by_cases q : S.testBit n = true
      · rw [if_pos q, if_pos q, sb_cong (h := fun A => sb (mi S A) (n + 1) (fun B => k A B)) (g := fun A => sb (mi S A) n (fun B => k A B) + sb (mi S A) n (fun B => k A (B ||| 2 ^ n))) (fun A hA => by rw [lo A _ hA, if_pos q]), sb_cong (h := fun A => sb (mi S (A ||| 2 ^ n)) (n + 1) (fun B => k (A ||| 2 ^ n) B)) (g := fun A => sb (mi S A) n (fun B => k (A ||| 2 ^ n) B)) (fun A hA => hi A _ hA), sb_add, Nat.add_assoc]
      · rw [if_neg q, if_neg q, sb_cong (h := fun A => sb (mi S A) (n + 1) (fun B => k A B)) (g := fun A => sb (mi S A) n (fun B => k A B)) (fun A hA => by rw [lo A _ hA, if_neg q, Nat.add_zero])]
    rw [side h, side (fun B A => h A B), sb_swap n h]
    by_cases q : S.testBit n = true
    · rw [if_pos q, if_pos q, sb_swap n (fun A B => h A (B ||| 2 ^ n)), sb_swap n (fun A B => h (A ||| 2 ^ n) B)]
      omega
    · rw [if_neg q, if_neg q]
/-- how many tintings of a set of countries there are with some tints -/
def rr (n : Nat → Nat) : Nat → Nat → Nat
  | 0, S => if S = 0 then 1 else 0
  | t + 1, S => sb S 10 (fun A => if idb n A = true then rr n t (mi S A) else 0)
theorem mi_or (S A B : Nat) : mi S (A ||| B) = mi (mi S A) B := by
  refine Nat.eq_of_testBit_eq fun i => ?_
  rw [mi_bit, mi_bit, mi_bit, Nat.testBit_or]
  cases S.testBit i <;> cases A.testBit i <;> cases B.testBit i <;> rfl
theorem mi_sw (S A B : Nat) : mi (mi S A) B = mi (mi S B) A := by
  rw [← mi_or, Nat.or_comm, mi_or]
theorem mi_ne0 {S A v : Nat} (hS : S.testBit v = true) (hA : A.testBit v = false) : mi S A ≠ 0 := fun e => by
  have := congrArg (fun x : Nat => x.testBit v) e
  simp only [mi_bit, hS, hA, Nat.zero_testBit] at this
  cases this
theorem inS_v {A S v n : Nat} (h : inS A (mi S (2 ^ v)) n) : A.testBit v = false := bfalse fun a => by
  have := h.2 v a
  rw [mp_bit, decide_eq_true rfl, Bool.not_true, Bool.and_false] at this
  cases this
/-- with one more tint: the set of those that get it together with one country is shared out first -/
def tt (n : Nat → Nat) (t v S : Nat) : Nat := sb (mi S (2 ^ v)) 10 (fun A => if idb n (A ||| 2 ^ v) = true then rr n t (mi S (A ||| 2 ^ v)) else 0)
theorem rr_first (n : Nat → Nat) {v : Nat} (hv : v < 10) : ∀ (t S : Nat), S.testBit v = true → rr n (t + 1) S = (t + 1) * tt n t v S := by
  intro t
  induction t with
  | zero =>
    intro S hS
    rw [rr, sb_splitv 10 _ hv hS]
    have e : sb (mi S (2 ^ v)) 10 (fun A => if idb n A = true then rr n 0 (mi S A) else 0) = 0 := sb_z' fun A hA => by
      rw [rr, if_neg (mi_ne0 hS (inS_v hA)), ite_self]
    rw [e, Nat.zero_add, Nat.zero_add, Nat.one_mul]
    rfl
  | succ u ih =>
    intro S hS
    rw [rr, sb_splitv 10 _ hv hS]
    have e : sb (mi S (2 ^ v)) 10 (fun A => if idb n A = true then rr n (u + 1) (mi S A) else 0) = (u + 1) * tt n (u + 1) v S := by
      have e1 : sb (mi S (2 ^ v)) 10 (fun A => if idb n A = true then rr n (u + 1) (mi S A) else 0) = sb (mi S (2 ^ v)) 10 (fun A => (u + 1) * sb (mi (mi S (2 ^ v)) A) 10 (fun B => if idb n A = true then (if idb n (B ||| 2 ^ v) = true then rr n u (mi (mi S A) (B ||| 2 ^ v)) else 0) else 0)) := by
        refine sb_cong fun A hA => ?_
        by_cases q : idb n A = true
        · rw [if_pos q, ih (mi S A) (by rw [mi_bit, hS, inS_v hA]; rfl)]
          unfold tt
          rw [mi_sw S (2 ^ v) A]
          simp only [if_pos q]
        · simp only [if_neg q]
          rw [sb_z, Nat.mul_zero]
      rw [e1, sb_mul, sb_swap 10 (fun A B => if idb n A = true then (if idb n (B ||| 2 ^ v) = true then rr n u (mi (mi S A) (B ||| 2 ^ v)) else 0) else 0)]
      congr 1
      unfold tt
      refine sb_cong fun B hB => ?_
      by_cases q : idb n (B ||| 2 ^ v) = true
      · simp only [if_pos q]
        rw [rr, mi_or S B (2 ^ v), mi_sw S B (2 ^ v)]
        refine sb_cong fun A hA => ?_
        rw [mi_sw S A (B ||| 2 ^ v), mi_or S B (2 ^ v), mi_sw S B (2 ^ v)]
      · simp only [if_neg q, ite_self]
        exact sb_z _ _
    rw [e]
    show (u + 1) * tt n (u + 1) v S + tt n (u + 1) v S = (u + 1 + 1) * tt n (u + 1) v S
    rw [Nat.succ_mul (u + 1)]
/-- never more than for one country fewer, times the tints -/
theorem rr_less (n : Nat → Nat) {v : Nat} (hv : v < 10) (hid : ∀ A, idb n (A ||| 2 ^ v) = true → idb n A = true) : ∀ (t S : Nat), S.testBit v = true → rr n t S ≤ t * rr n t (mi S (2 ^ v)) := by
  intro t
  induction t with
  | zero =>
    intro S hS
    have : S ≠ 0 := fun e => by rw [e, Nat.zero_testBit] at hS; cases hS
    rw [rr, if_neg this]
    omega
  | succ t ih =>
    intro S hS
    rw [rr, sb_splitv 10 _ hv hS, Nat.succ_mul]
    refine Nat.add_le_add ?_ ?_
    · show _ ≤ t * rr n (t + 1) (mi S (2 ^ v))
      rw [rr, ← sb_mul]
      refine sb_le fun A hA => ?_
      by_cases q : idb n A = true
      · rw [if_pos q, if_pos q, mi_sw]
        exact ih (mi S A) (by rw [mi_bit, hS, inS_v hA]; rfl)
      · rw [if_neg q, if_neg q]; omega
    · show _ ≤ rr n (t + 1) (mi S (2 ^ v))
      rw [rr]
      refine sb_le fun A hA => ?_
      by_cases q : idb n (A ||| 2 ^ v) = true
      · rw [if_pos q, if_pos (hid A q), mi_or, mi_sw]
        exact Nat.le_refl _
      · rw [if_neg q]; omega
