/-! the pure side: the two states side by side; the calls that only look -/
def RelX (land : Nat → Int64) (there : Int32) (near worn mcel mtint : Nat → Int32) (c t : Nat → Nat) : Prop := (∀ i, i < 36 → c i ≤ 10) ∧ (∀ k, k < 10 → t k ≤ 10) ∧ (∀ k, k < 10 → land k = lN (ld_S c k)) ∧ there = nI (th_S c) ∧ (∀ k, k < 10 → near k = nI (ne_S c k)) ∧ (∀ k, k < 10 → worn k = nI (t k)) ∧ (∀ i, i < 36 → mcel i = cv (c i)) ∧ (∀ k, k < 10 → mtint k = nI (t k))
def badC (p : Int32) : Prop := p < 0 ∨ (10 : Int32) ≤ p
theorem allC (p : Int32) : badC p ∨ ∃ k, k < 10 ∧ p = nI k := by
  rcases pk_ix p (n := 10) (by decide) with h | h | h
  · exact Or.inl (Or.inl h)
  · exact Or.inl (Or.inr h)
  · exact Or.inr h
theorem xb0 : xbool 0 := rfl
theorem xb1 : xbool 1 := rfl
theorem chkC_bad {p : Int32} (h : badC p) {Q : Prop} {T : String → Prop} (ht : T "java/lang/IndexOutOfBoundsException") : q_X0_checkCountry p Q T := by
  refine ⟨fun _ => ht, fun h1 => ⟨fun h2 => ?_, fun _ => ht⟩⟩
  rcases h with h | h
  · exact absurd h h1
  · exact absurd h2 (by rw [Int32.lt_iff_toInt_lt]; rw [Int32.le_iff_toInt_le] at h; omega)
theorem chkC_ok {k : Nat} (hk : k < 10) {Q : Prop} {T : String → Prop} (h : Q) : q_X0_checkCountry (nI k) Q T := ⟨fun q => absurd q (nI_pos (by omega)), fun _ => ⟨fun _ => h, fun q => absurd (nI_lt (b := 10) hk (by decide)) q⟩⟩
/-- the ends of a case of the law -/
theorem end_ok {A : Prop} {f : Nat → Int64} {b : Int64} (h : A) : (((0 : Int32) = (0 : Int32) → ((¬ (0 : Int32) = (0 : Int32) → A) ∧ ((0 : Int32) = (0 : Int32) → (((lg_cmp (vp_updL f (0 : Int32).toNatClampNeg b (0 : Int32).toNatClampNeg) b) = (0 : Int32) → A) ∧ (¬ (lg_cmp (vp_updL f (0 : Int32).toNatClampNeg b (0 : Int32).toNatClampNeg) b) = (0 : Int32) → False))))) ∧ (¬ (0 : Int32) = (0 : Int32) → False)) :=
  ⟨fun _ => ⟨fun q => absurd rfl q, fun _ => ⟨fun _ => h, fun q => q (pcmp.mpr upL_s)⟩⟩, fun q => q rfl⟩
theorem end_ex {A B : Prop} {e : Int32} (he : e ≠ 0) (h : A) : ((e = e → ((¬ e = (0 : Int32) → A) ∧ (e = (0 : Int32) → B))) ∧ (¬ e = e → False)) :=
  ⟨fun _ => ⟨fun _ => h, fun q => absurd q he⟩, fun q => q rfl⟩
theorem end_eq {A : Prop} {r : Int32} (h : A) : ((r = r → A) ∧ (¬ r = r → False)) := ⟨fun _ => h, fun q => q rfl⟩
theorem th_pc (c : Nat → Nat) : th_S c < 2 ^ 36 := Nat.lt_of_lt_of_le (th_lt c) (by decide)
theorem ne_pc (c : Nat → Nat) (k : Nat) : ne_S c k < 2 ^ 36 := Nat.lt_of_lt_of_le (ne_lt c k) (by decide)
