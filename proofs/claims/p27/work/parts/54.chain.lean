/-! the pure side: chains, exchange -/
/-- all countries one step further over a set A, from those of s below k -/
def un (n : Nat → Nat) (A s : Nat) : Nat → Nat
  | 0 => s
  | k + 1 => if s.testBit k then un n A s k ||| (n k &&& A) else un n A s k
def stp (n : Nat → Nat) (A s : Nat) : Nat := un n A s 10
theorem un_lt {n : Nat → Nat} {A s : Nat} (hg : ∀ k, k < 10 → n k < 1024) (hs : s < 1024) : ∀ k, k ≤ 10 → un n A s k < 1024
  | 0, _ => hs
  | k + 1, h => by
    rw [un]
    split
    · exact or_lt (n := 10) (un_lt hg hs k (by omega)) (and_lt (n := 10) (hg k (by omega)))
    · exact un_lt hg hs k (by omega)
theorem un_up {n : Nat → Nat} {A s : Nat} : ∀ k, wi s (un n A s k)
  | 0 => wi_rf s
  | k + 1 => fun i h => by
    rw [un]
    split
    · rw [Nat.testBit_or, un_up k i h, Bool.true_or]
    · exact un_up k i h
theorem un_in {n : Nat → Nat} {A s : Nat} : ∀ k i, (un n A s k).testBit i = true → s.testBit i = true ∨ A.testBit i = true
  | 0, _, h => Or.inl h
  | k + 1, i, h => by
    rw [un] at h
    split at h
    · rw [Nat.testBit_or, Bool.or_eq_true, Nat.testBit_and, Bool.and_eq_true] at h
      rcases h with h | h
      · exact un_in k i h
      · exact Or.inr h.2
    · exact un_in k i h
def chi (n : Nat → Nat) (A a : Nat) : Nat → Nat
  | 0 => a
  | k + 1 => stp n A (chi n A a k)
theorem chi_lt {n : Nat → Nat} {A a : Nat} (hg : ∀ k, k < 10 → n k < 1024) (ha : a < 1024) : ∀ k, chi n A a k < 1024
  | 0 => ha
  | k + 1 => un_lt hg (chi_lt hg ha k) 10 (Nat.le_refl _)
theorem chi_in {n : Nat → Nat} {A a : Nat} : ∀ k i, (chi n A a k).testBit i = true → a.testBit i = true ∨ A.testBit i = true
  | 0, _, h => Or.inl h
  | k + 1, i, h => by
    rcases un_in 10 i h with h | h
    · exact chi_in k i h
    · exact Or.inr h
theorem chi_stop {n : Nat → Nat} {A a k : Nat} (h : chi n A a (k + 1) = chi n A a k) : ∀ j, k ≤ j → chi n A a j = chi n A a k := by
  intro j hj
  induction j with
  | zero => rw [show k = 0 by omega]
  | succ j ih =>
    rcases Nat.lt_or_ge j k with q | q
    · rw [show k = j + 1 by omega]
    · show stp n A (chi n A a j) = _
      rw [ih q]
      exact h
theorem chi_grow {n : Nat → Nat} {A a : Nat} (hg : ∀ k, k < 10 → n k < 1024) (ha : a < 1024) (h0 : 1 ≤ pc a) : ∀ k, (∀ j, j < k → chi n A a (j + 1) ≠ chi n A a j) → k + 1 ≤ pc (chi n A a k)
  | 0, _ => h0
  | k + 1, hne => by
    have h1 := chi_grow hg ha h0 k (fun j hj => hne j (by omega))
    have h2 := wi_pc_lt (x := chi n A a k) (y := chi n A a (k + 1)) (un_up 10) (Nat.lt_of_lt_of_le (chi_lt hg ha (k + 1)) (by decide)) (fun e => hne k (by omega) e.symm)
    omega
theorem pc_10 {a : Nat} (ha : a < 1024) : pc a ≤ 10 := by
  rw [pc_n (n := 10) ha (by decide)]
  exact ct_le _ _
theorem chi_fix {n : Nat → Nat} {A a : Nat} (hg : ∀ k, k < 10 → n k < 1024) (ha : a < 1024) (h0 : 1 ≤ pc a) : chi n A a 11 = chi n A a 10 := by
  refine Classical.byContradiction fun hn => ?_
  have h1 := chi_grow (n := n) (A := A) hg ha h0 11 (fun j hj e => hn (by rw [chi_stop e 11 (by omega), chi_stop e 10 (by omega)]))
  have h2 := pc_10 (chi_lt (n := n) (A := A) hg ha 11)
  omega
theorem pow_lt10 {k : Nat} (hk : k < 10) : 2 ^ k < 1024 := Nat.pow_lt_pow_right (a := 2) (n := 10) (by decide) hk
theorem pc_pow {k : Nat} (hk : k < 10) : 1 ≤ pc (2 ^ k) := by
  have : ∀ k, k < 10 → 1 ≤ pc (2 ^ k) := by decide +kernel
  exact this k hk
theorem X0_ch44 {n : Nat → Nat} {near : Nat → Int32} (hn : ∀ k, k < 10 → near k = nI (n k)) {A s : Nat} {P0 : Int32 → Prop} (h : P0 (nI (stp n A s))) : ∀ (d k : Nat), k + d = 10 → q_X0_chainOf_L44 (nI A) (nI s) near P0 (d + 1) (nI (un n A s k)) (nI k) := by
  intro d
  induction d with
  | zero =>
    intro k hk
    have : k = 10 := by omega
    subst this
    rw [q_X0_chainOf_L44]
    exact ⟨fun _ => h, fun q => absurd (by decide) q⟩
  | succ d ih =>
    intro k hk
    have := ih (k + 1) (by omega)
    rw [un] at this
    rw [q_X0_chainOf_L44]
    refine ⟨fun q => absurd q (ge10 (by omega)), fun _ => has_spec (by omega) (fun q => ⟨fun _ => ?_, fun z => absurd rfl z⟩) (fun q => ⟨fun z => absurd z (by decide), fun _ => ⟨xin_nI (by omega) (by decide), xl_i ?_⟩⟩)⟩
    · rw [if_neg (by rw [q]; decide)] at this
      rw [nI_1]; exact this
    · rw [if_pos q] at this
      rw [nI_clamp (n := k) (by omega), hn k (by omega), pI_and, pI_or, nI_1]; exact this
theorem X0_ch30 {n : Nat → Nat} {near : Nat → Int32} (hn : ∀ k, k < 10 → near k = nI (n k)) {A a : Nat} {P0 : Int32 → Prop} (h : P0 (nI (chi n A a 10))) : ∀ (d k : Nat), k + d = 10 → q_X0_chainOf_L30 (nI A) near P0 (d + 1) (nI (chi n A a k)) (nI k) := by
  intro d
  induction d with
  | zero =>
    intro k hk
    have : k = 10 := by omega
    subst this
    rw [q_X0_chainOf_L30]
    exact ⟨fun _ => h, fun q => absurd (by decide) q⟩
  | succ d ih =>
    intro k hk
    rw [q_X0_chainOf_L30]
    refine ⟨fun q => absurd q (ge10 (by omega)), fun _ => ⟨11, ?_⟩⟩
    rw [nI_1]
    exact X0_ch44 hn (ih (k + 1) (by omega)) 10 0 rfl
/-- the countries that are there and have one of two tints -/
def ov (th : Nat) (t : Nat → Nat) (u v : Nat) : Nat := so (fun j => th.testBit j && decide (t j = v ∨ t j = u)) 10
theorem ov_lt (th : Nat) (t : Nat → Nat) (u v : Nat) : ov th t u v < 1024 := so_lt _ 10
theorem ov_bit {th : Nat} {t : Nat → Nat} {u v j : Nat} (hj : j < 10) : (ov th t u v).testBit j = (th.testBit j && decide (t j = v ∨ t j = u)) := by
  unfold ov
  rw [so_bit, decide_eq_true hj, Bool.true_and]
theorem ov_eq {th : Nat} (hth : th < 1024) {t : Nat → Nat} {u v : Nat} : th &&& (wr t u ||| wr t v) = ov th t u v := by
  refine set_eq (n := 10) (and_lt (n := 10) hth) (ov_lt _ _ _ _) (fun j hj => ?_)
  rw [Nat.testBit_and, Nat.testBit_or, wr_bit hj, wr_bit hj, ov_bit hj, ← Bool.decide_or]
  congr 1
  exact decide_eq_decide.mpr (by omega)
def chn (n : Nat → Nat) (th : Nat) (t : Nat → Nat) (k v : Nat) : Nat := chi n (ov th t (t k) v) (2 ^ k) 10
theorem chn_lt {n : Nat → Nat} (hg : ∀ k, k < 10 → n k < 1024) {th : Nat} {t : Nat → Nat} {k v : Nat} (hk : k < 10) : chn n th t k v < 1024 := chi_lt hg (pow_lt10 hk) 10
theorem X0_chainOf_spec {n : Nat → Nat} {th k v : Nat} {near worn : Nat → Int32} {t : Nat → Nat} (hth : th < 1024) (hn : ∀ k, k < 10 → near k = nI (n k)) (hw : ∀ k, k < 10 → worn k = nI (t k)) (hb : ∀ k, k < 10 → t k ≤ 10) (hk : k < 10) (hv : v ≤ 10) {P : Int32 → Prop} (h : P (nI (chn n th t k v))) : q_X0_chainOf (nI k) (nI v) (nI th) near worn P := by
  unfold q_X0_chainOf
  refine ⟨xin_nI hk (by decide), ?_⟩
  rw [nI_clamp (n := k) (by omega), hw k hk]
  refine X0_wearing_spec hw hb (hb k hk) (X0_wearing_spec hw hb hv (xl_i (xl_i ⟨11, ?_⟩)))
  rw [pI_or, pI_and, ov_eq hth, pI_bit (by omega)]
  exact X0_ch30 hn h 10 0 rfl
def badT (p : Int32) : Prop := p < 1 ∨ (10 : Int32) < p
theorem allT1 (p : Int32) : badT p ∨ ∃ v, 1 ≤ v ∧ v ≤ 10 ∧ p = nI v := by
  rcases allT p with (h | h) | ⟨v, hv, rfl⟩
  · refine Or.inl (Or.inl ?_)
    rw [Int32.lt_iff_toInt_lt] at h ⊢
    have e1 : (1 : Int32).toInt = 1 := by decide
    have e3 : (0 : Int32).toInt = 0 := by decide
    omega
  · exact Or.inl (Or.inr h)
  · rcases Nat.eq_zero_or_pos v with rfl | h
    · exact Or.inl (Or.inl (by decide))
    · exact Or.inr ⟨v, h, hv, rfl⟩
theorem chkT1_bad {p : Int32} (h : badT p) {Q : Prop} {T : String → Prop} (ht : T "java/lang/IllegalArgumentException") : q_X0_checkTint p Q T := by
  refine ⟨fun _ => ht, fun h1 => ⟨fun h2 => ?_, fun _ => ht⟩⟩
  rcases h with h | h
  · exact absurd h h1
  · exact (le_ltA h2 h).elim
theorem chkTd_spec {th k : Nat} {worn : Nat → Int32} {t : Nat → Nat} (hw : ∀ k, k < 10 → worn k = nI (t k)) (hb : ∀ k, k < 10 → t k ≤ 10) (hk : k < 10) {Q : Prop} {T : String → Prop} (ht : ¬ (th.testBit k = true ∧ t k ≠ 0) → T "java/lang/IllegalStateException") (h : th.testBit k = true → t k ≠ 0 → Q) : q_X0_checkTinted (nI k) (nI th) worn Q T := by
  unfold q_X0_checkTinted
  have hbk := hb k hk
  refine has_spec hk (fun q => ⟨fun _ => ht (fun z => ?_), fun z => absurd rfl z⟩) (fun q => ⟨fun z => absurd z (by decide), fun _ => ⟨xin_nI hk (by decide), ?_⟩⟩)
  · rw [q] at z; exact absurd z.1 (by decide)
  · rw [nI_clamp (n := k) (by omega), hw k hk, pI_eq0 (by omega)]
    exact ⟨fun z => h q z, fun z => ht (fun y => y.2 z)⟩
section CHAIN
variable {c t : Nat → Nat} {mcel mtint : Nat → Int32} {cells : Nat → Int64} {near : Nat → Int32} {P : Int32 → (Nat → Int64) → (Nat → Int32) → Int32 → Int32 → Prop}
end CHAIN
/-- the tints once they are exchanged -/
def exc (t : Nat → Nat) (S u v : Nat) : Nat → Nat := fun j => if S.testBit j = true then (if t j = u then v else u) else t j
theorem X0_ex_L {S u v : Nat} {t : Nat → Nat} (ht : ∀ k, k < 10 → t k ≤ 10) (hu : u ≤ 10) (hv : v ≤ 10) {P0 : (Nat → Int32) → Prop} (h : ∀ worn', (∀ k, k < 10 → worn' k = nI (exc t S u v k)) → P0 worn') : ∀ (d k : Nat) (worn : Nat → Int32), k + d = 10 → (∀ j, j < 10 → worn j = nI (if j < k then exc t S u v j else t j)) → q_X0_exchange_L38 (nI v) (nI u) (nI S) P0 (d + 1) (nI k) worn := by
  intro d
  induction d with
  | zero =>
    intro k worn hk e
    have : k = 10 := by omega
    subst this
    rw [q_X0_exchange_L38]
    exact ⟨fun _ => h worn (fun j hj => by rw [e j hj, if_pos hj]), fun q => absurd (by decide) q⟩
  | succ d ih =>
    intro k worn hk e
    have xk := xin_nI (show k < 10 by omega) (by decide)
    have htk := ht k (by omega)
    have ek := e k (by omega)
    rw [if_neg (Nat.lt_irrefl k)] at ek
    have go : ∀ y, y = nI (exc t S u v k) → q_X0_exchange_L38 (nI v) (nI u) (nI S) P0 (d + 1) (nI (k + 1)) (upd worn k y) := fun y hy => ih (k + 1) _ (by omega) (fun j hj => by
      by_cases q : j = k
      · subst q; rw [upI_s, hy, if_pos (by omega)]
      · rw [upI_n q, e j hj]
        by_cases z : j < k
        · rw [if_pos z, if_pos (by omega)]
        · rw [if_neg z, if_neg (by omega)])
    rw [q_X0_exchange_L38]
    refine ⟨fun q => absurd q (ge10 (by omega)), fun _ => has_spec (by omega) (fun q => ⟨fun _ => ?_, fun z => absurd rfl z⟩) (fun q => ⟨fun z => absurd z (by decide), fun _ => ⟨xk, ?_⟩⟩)⟩
    · rw [nI_1]
      refine ih (k + 1) worn (by omega) (fun j hj => ?_)
      rw [e j hj]
      by_cases z : j < k
      · rw [if_pos z, if_pos (by omega)]
      · rw [if_neg z]
        by_cases y : j = k
        · subst y; rw [if_pos (by omega)]; unfold exc; rw [if_neg (by rw [q]; decide)]
        · rw [if_neg (by omega)]
    · rw [nI_clamp (n := k) (by omega), ek, nI_eq (by omega) (by omega), nI_1]
      refine ⟨fun z => ⟨xk, go _ ?_⟩, fun z => ⟨xk, go _ ?_⟩⟩
      · unfold exc; rw [if_pos q, if_neg z]
      · unfold exc; rw [if_pos q, if_pos z]
theorem chn_in {n : Nat → Nat} {th : Nat} {t : Nat → Nat} {k v j : Nat} (hj : j < 10) (h : (chn n th t k v).testBit j = true) : t j = v ∨ t j = t k := by
  rcases chi_in 10 j h with h | h
  · rw [Nat.testBit_two_pow, decide_eq_true_iff] at h
    subst h; exact Or.inr rfl
  · rw [ov_bit hj, Bool.and_eq_true, decide_eq_true_iff] at h
    exact h.2
theorem exc_same {n : Nat → Nat} {th : Nat} {t : Nat → Nat} {k j : Nat} (hj : j < 10) : exc t (chn n th t k (t k)) (t k) (t k) j = t j := by
  unfold exc
  by_cases q : (chn n th t k (t k)).testBit j = true
  · rw [if_pos q, ite_self]
    rcases chn_in hj q with h | h <;> exact h.symm
  · rw [if_neg q]
theorem exc_le {t : Nat → Nat} {S u v : Nat} (ht : ∀ k, k < 10 → t k ≤ 10) (hu : u ≤ 10) (hv : v ≤ 10) : ∀ k, k < 10 → exc t S u v k ≤ 10 := fun k hk => by
  have := ht k hk
  unfold exc
  repeat' split
  all_goals omega
theorem rel_t {land : Nat → Int64} {there : Int32} {near worn mcel mtint : Nat → Int32} {c t t' : Nat → Nat} (r : RelX land there near worn mcel mtint c t) {worn' mtint' : Nat → Int32} (h0 : ∀ k, k < 10 → t' k ≤ 10) (h1 : ∀ k, k < 10 → worn' k = nI (t' k)) (h2 : ∀ k, k < 10 → mtint' k = nI (t' k)) : RelX land there near worn' mcel mtint' c t' := by
  obtain ⟨hb, ht, hl, hth, hn, hw, hc, hm⟩ := r
  exact ⟨hb, h0, hl, hth, hn, h1, hc, h2⟩
