/-! the pure side: scattered, enclosed, tint, tintOf, border -/
theorem cp_le : ∀ n a, cp n a ≤ n
  | 0, _ => Nat.le_refl _
  | n + 1, a => by
    rw [cp]
    split
    · omega
    · have := cp_le n (mi a (pie a)); omega
def sc (c : Nat → Nat) (n : Nat) : Nat := ct (fun k => decide (1 < cp 36 (ld_S c k))) n
def cE : Nat := 68208171135
theorem cE_eq : (68208171135 : Int64) = lN cE := by decide +kernel
theorem cM_lt : cM < 2 ^ 36 := by decide
def encl (A : Nat) : Nat := pc (mi (mi cM A) (rch (mi cM A) (cE &&& mi cM A)))
theorem X0_encl {k A : Nat} (hk : k < 10) {land : Nat → Int64} (h : land k = lN A) (hA : A < 2 ^ 36) {P : Int32 → Prop} (hp : P (nI (encl A))) : xin (nI k) 10 = true ∧ xl ((68719476735 : Int64) &&& ((land (nI k).toNatClampNeg) ^^^ (-1 : Int64))) (fun y1 => q_X0_reach ((68208171135 : Int64) &&& y1) y1 (fun (r2 : Int64) => q_J13_bitCount_95d88 (y1 &&& (r2 ^^^ (-1 : Int64))) (fun (r3 : Int32) => P r3))) := by
  refine ⟨xin_nI hk (by decide), ?_⟩
  unfold xl
  rw [nI_clamp (by omega), h, cM_eq, pL_mi, cE_eq]
  unfold encl at hp
  have hm : mi cM A < 2 ^ 36 := mi_lt cM_lt
  generalize mi cM A = M at hm hp ⊢
  generalize cE = e at hp ⊢
  show q_X0_reach (lN e &&& lN M) (lN M) _
  rw [pL_and]
  refine X0_reach_spec (wi_and_r _ _) hm ?_
  rw [pL_mi]
  exact J13_spec (mi_lt hm) hp
theorem xl_i {α : Type} {e : α} {f : α → Prop} (h : f e) : xl e f := h
theorem allT (p : Int32) : (p < 0 ∨ (10 : Int32) < p) ∨ ∃ v, v ≤ 10 ∧ p = nI v := by
  rcases pk_ix p (n := 11) (by decide) with h | h | ⟨v, h1, h2⟩
  · exact Or.inl (Or.inl h)
  · refine Or.inl (Or.inr ?_)
    rw [Int32.lt_iff_toInt_lt]
    rw [Int32.le_iff_toInt_le] at h
    have e1 : (nI 11).toInt = 11 := by decide
    have e2 : (10 : Int32).toInt = 10 := by decide
    omega
  · exact Or.inr ⟨v, by omega, h2⟩
theorem chkT_bad {p : Int32} (h : p < 0 ∨ (10 : Int32) < p) {Q : Prop} {T : String → Prop} (ht : T "java/lang/IllegalArgumentException") : q_X0_checkTint p Q T := by
  refine ⟨fun _ => ht, fun h1 => ⟨fun h2 => ?_, fun _ => ht⟩⟩
  rw [Int32.lt_iff_toInt_lt] at h1
  rw [Int32.le_iff_toInt_le] at h2
  have e1 : (1 : Int32).toInt = 1 := by decide
  have e2 : (10 : Int32).toInt = 10 := by decide
  have e3 : (0 : Int32).toInt = 0 := by decide
  rcases h with h | h <;> rw [Int32.lt_iff_toInt_lt] at h <;> omega
theorem chkT_0 {Q : Prop} {T : String → Prop} (ht : T "java/lang/IllegalArgumentException") : q_X0_checkTint 0 Q T := ⟨fun _ => ht, fun h1 => absurd (by decide) h1⟩
theorem chkT_ok {v : Nat} (h1 : 1 ≤ v) (h2 : v ≤ 10) {Q : Prop} {T : String → Prop} (h : Q) : q_X0_checkTint (nI v) Q T := ⟨fun q => absurd q (nI_nlt (b := 1) h1 (by omega)), fun _ => ⟨fun _ => h, fun q => absurd (nI_le (b := 10) h2 (by decide)) q⟩⟩
theorem rel_tint {land : Nat → Int64} {there : Int32} {near worn mcel mtint : Nat → Int32} {c t : Nat → Nat} (r : RelX land there near worn mcel mtint c t) {k v : Nat} (hv : v ≤ 10) : RelX land there near (upd worn k (nI v)) mcel (upd mtint k (nI v)) c (fun j => if j = k then v else t j) := by
  obtain ⟨hb, ht, hl, hth, hn, hw, hc, hm⟩ := r
  refine ⟨hb, fun j hj => ?_, hl, hth, hn, fun j hj => ?_, hc, fun j hj => ?_⟩
  · show (if j = k then v else t j) ≤ 10
    by_cases e : j = k
    · rw [if_pos e]; exact hv
    · rw [if_neg e]; exact ht j hj
  · show upd worn k (nI v) j = nI (if j = k then v else t j)
    by_cases e : j = k
    · subst e; rw [if_pos rfl, upI_s]
    · rw [if_neg e, upI_n e]; exact hw j hj
  · show upd mtint k (nI v) j = nI (if j = k then v else t j)
    by_cases e : j = k
    · subst e; rw [if_pos rfl, upI_s]
    · rw [if_neg e, upI_n e]; exact hm j hj
