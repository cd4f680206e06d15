/-! the pure side: the loop over the calls -/
theorem stop_raw : ∀ L, L < 6 → (nI L - 6 : Int32) < 0 := by decide +kernel
theorem stop_lo {L k : Nat} (hL : L < 6) (hk : k < 2 ^ 31) : nI L - 6 < nI k := by
  have h1 := stop_raw L hL
  have h2 := nI_toInt hk
  rw [Int32.lt_iff_toInt_lt] at h1 ⊢
  have e3 : (0 : Int32).toInt = 0 := by decide
  omega
theorem stop_hi {L k : Nat} (hL : 6 ≤ L) (hL2 : L ≤ 3072) (hk : k < 4000) : nI L - 6 < nI k ↔ L - 6 < k := by
  rw [show (6 : Int32) = nI 6 from rfl, pI_sub hL, nI_ltI (by omega) (by omega)]
theorem law_L {L : Nat} {xs : Nat → Int32} (hL : L ≤ 3072) : ∀ (d k : Nat), L ≤ k + 6 * d → k ≤ L → ∀ (land : Nat → Int64) (there : Int32) (near : Nat → Int32) (worn : Nat → Int32) (trial : Nat → Int32) (fits : Nat → Int32) (ways : Nat → Int64) (joined : Nat → Nat → Int32) (mcel : Nat → Int32) (mtint : Nat → Int32) (mcells : Nat → Int64) (mnear : Nat → Int32) (mthere : Int32) (mways : Nat → Int64) (mmore : Nat → Int64) (mthrown : Int32) (out : Nat → Int64) (c t : Nat → Nat), RelX land there near worn mcel mtint c t → q_L_law_L23 L xs (d + 1) (nI k) land there near worn trial fits ways joined mcel mtint mcells mnear mthere mways mmore mthrown out := by
  intro d
  induction d with
  | zero =>
    intro k hd hk land there near worn trial fits ways joined mcel mtint mcells mnear mthere mways mmore mthrown out c t r
    rw [q_L_law_L23]
    refine ⟨fun _ => trivial, fun q => absurd ?_ q⟩
    rcases Nat.lt_or_ge L 6 with z | z
    · exact stop_lo z (by omega)
    · exact (stop_hi z hL (by omega)).mpr (by omega)
  | succ d ih =>
    intro k hd hk land there near worn trial fits ways joined mcel mtint mcells mnear mthere mways mmore mthrown out c t r
    rw [q_L_law_L23]
    refine ⟨fun _ => trivial, fun q => ?_⟩
    have hk6 : k + 6 ≤ L := by
      rcases Nat.lt_or_ge L 6 with z | z
      · exact absurd (stop_lo z (by omega)) q
      · rw [stop_hi z hL (by omega)] at q
        omega
    have xn : ∀ j : Nat, j < 6 → xin (nI k + nI j) L = true := fun j hj => by
      rw [nI_add]
      exact xin_nI (by omega) (by omega)
    have h1 : xin (nI k + (1 : Int32)) L = true := xn 1 (by decide)
    have h2 : xin (nI k + (2 : Int32)) L = true := xn 2 (by decide)
    have h3 : xin (nI k + (3 : Int32)) L = true := xn 3 (by decide)
    have h4 : xin (nI k + (4 : Int32)) L = true := xn 4 (by decide)
    have h5 : xin (nI k + (5 : Int32)) L = true := xn 5 (by decide)
    have hr : RecOK (q_L_law_L23 L xs (d + 1)) (nI k) := by
      intro a1 a2 a3 a4 a5 a6 a7 a8 a9 a10 a11 a12 a13 a14 a15 a16 a17 c2 t2 r2
      rw [show (6 : Int32) = nI 6 from rfl, nI_add]
      exact ih (k + 6) (by omega) (by omega) a1 a2 a3 a4 a5 a6 a7 a8 a9 a10 a11 a12 a13 a14 a15 a16 a17 c2 t2 r2
    exact ⟨xin_nI (by omega) (by omega), fun _ => case0 h1 h2 h3 r hr, fun _ => case1 h1 h2 h3 h4 h5 r hr, fun _ => case2 h1 h2 r hr, fun _ => case3 r hr, fun _ => case4 h1 r hr, fun _ => case5 h1 r hr, fun _ => case6 h1 r hr, fun _ => case7 r hr, fun _ => case8 h1 r hr, fun _ => case9 h1 h2 r hr, fun _ => case10 h1 r hr, fun _ => case11 r hr, fun _ => case12 h1 h2 r hr, fun _ => case13 h1 r hr, fun _ => case14 r hr, fun _ => case15 r hr, fun _ => case16 h1 r hr, fun _ => case17 h1 h2 r hr, fun _ => case18 h1 h2 r hr, fun _ => case19 h1 r hr, fun _ => case20 r hr, fun _ => case21 r hr, fun _ => case22 h1 r hr, fun _ => case23 h1 r hr, fun _ => case24 r hr⟩
theorem rel_0 : RelX (fun _ => 0) 0 (fun _ => 0) (fun _ => 0) cel0 (fun _ => 0) (fun _ => 10) (fun _ => 0) := by
  have e1 : ∀ k, k < 10 → ld_S (fun _ => 10) k = 0 := by decide +kernel
  have e2 : th_S (fun _ => 10) = 0 := by decide +kernel
  have e3 : ∀ k, k < 10 → ne_S (fun _ => 10) k = 0 := by decide +kernel
  refine ⟨fun _ _ => Nat.le_refl _, fun _ _ => Nat.zero_le _, fun k hk => ?_, ?_, fun k hk => ?_, fun _ _ => rfl, fun i hi => ?_, fun _ _ => rfl⟩
  · rw [e1 k hk]; rfl
  · rw [e2]; rfl
  · rw [e3 k hk]; rfl
  · show cel0 i = cv 10
    unfold cel0
    rw [if_pos hi]
    rfl
theorem law_pure : ∀ (L : Nat) (xs : Nat → Int32), L ≤ 3072 → ∃ n, n ≤ 1000 ∧ q_L_law_L23 L xs n 0 (fun _ => 0) 0 (fun _ => 0) (fun _ => 0) (fun _ => 0) (fun _ => 0) (fun _ => 0) (fun _ _ => 0) cel0 (fun _ => 0) (fun _ => 0) (fun _ => 0) 0 (fun _ => 0) (fun _ => 0) 0 (fun _ => 0) := fun L xs hL =>
  ⟨L / 6 + 1 + 1, by omega, law_L hL (L / 6 + 1) 0 (by omega) (Nat.zero_le _) _ _ _ _ _ _ _ _ _ _ _ _ _ _ _ _ _ _ _ rel_0⟩
