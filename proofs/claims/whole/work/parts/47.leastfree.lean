/-! the pure side: leastFree -/
theorem free_spec {N : Nat} {t : Nat → Nat} (hN : N < 1024) (h9 : ct N.testBit 10 ≤ 9) (hb : ∀ k, k < 10 → t k ≤ 10) : ∃ f, f ≤ 10 ∧ (∀ (worn : Nat → Int32), (∀ k, k < 10 → worn k = nI (t k)) → ∀ P : Int32 → Prop, P (nI f) → q_X0_leastFreeBeside (nI N) worn P) ∧ (∀ (tint : Nat → Int32), (∀ k, k < 10 → tint k = nI (t k)) → ∀ P : Int32 → Prop, P (nI f) → q_X1_least (nI N) tint P) := by
  obtain ⟨f, f1, f2, f3, f4⟩ := lf_ex (t := t) h9
  refine ⟨f, f2, fun worn hw P h => ⟨10, X0_free_L hw hb f2 f3 f4 h 9 1 (by omega) f1 rfl⟩, fun tint hw P h => X1_free_L hN hw hb f2 f3 f4 h (f - 1) 1 10 0 (by omega) (by omega) rfl (fun j hj => absurd hj (by omega))⟩
section CASES
variable {L : Nat} {xs : Nat → Int32} {rec9 : recT} {i : Int32} {land : Nat → Int64} {there : Int32} {near : Nat → Int32} {worn : Nat → Int32} {trial : Nat → Int32} {fits : Nat → Int32} {ways : Nat → Int64} {joined : Nat → Nat → Int32} {mcel : Nat → Int32} {mtint : Nat → Int32} {mcells : Nat → Int64} {mnear : Nat → Int32} {mthere : Int32} {mways : Nat → Int64} {mmore : Nat → Int64} {mthrown : Int32} {out : Nat → Int64} {c t : Nat → Nat}
theorem case16 (hx : xin (i + (1 : Int32)) L = true) (r : RelX land there near worn mcel mtint c t) (hr : RecOK rec9 i) : q_L_case16 L xs rec9 i land there near worn trial fits ways joined mcel mtint mcells mnear mthere mways mmore mthrown out := by
  obtain ⟨hb, ht, hl, hth, hn, hw, hc, hm⟩ := id r
  unfold q_L_case16 q_L_leastFree q_X0_leastFree q_X1_leastFree
  refine ⟨hx, ?_⟩
  generalize xs (i + (1 : Int32)).toNatClampNeg = p
  rcases allC p with hp | ⟨k, hk, rfl⟩
  · exact chkC_bad hp ⟨rfl, hx, looks_spec hc hb (fun cells' near' h1 h2 => isC_bad hp (goes_0 ⟨fun _ => end_ex (by decide) (hr _ _ _ _ _ _ _ _ _ _ _ _ _ _ _ _ _ c t r), fun q => absurd rfl q⟩))⟩
  · have xk := xin_nI hk (by decide)
    obtain ⟨f, f2, a0, a1⟩ := free_spec (t := t) (ne_lt c k) (ne_9 c hk) ht
    refine chkC_ok hk ⟨xk, ?_⟩
    rw [nI_clamp (by omega), hn k hk]
    refine a0 worn hw _ ⟨hx, looks_spec hc hb (fun cells' near' h1 h2 => isC_ok hk (goes_111 ⟨fun q => absurd q (by decide), fun _ => ⟨xk, ?_⟩⟩))⟩
    rw [h2 k hk]
    exact a1 mtint hm _ (thr (end_ok (hr _ _ _ _ _ _ _ _ _ _ _ _ _ _ _ _ _ c t r)))
end CASES
