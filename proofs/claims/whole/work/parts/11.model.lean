/-! the reference's small methods; its office at the place 36 -/
def tp_D (M : jx_M) (s : tp_S) : Prop := M 36 5 = nI (s 0 0) ∧ M 36 6 = nI (s 0 1) ∧ M 36 7 = nI (s 0 2) ∧ M 36 8 = nI (s 0 3) ∧ (∀ p, p < s 0 0 → M 40 p = nI (s 1 p) ∧ M 41 p = nI (s 2 p)) ∧ (∀ c, c < s 0 1 → M 42 c = nI (s 3 c) ∧ M 43 c = nI (s 4 c) ∧ M 44 c = nI (s 5 c))
theorem jx_ix (x : Int32) {n : Nat} (hn : n < 2147483648) : (x < 0 ∨ nI n ≤ x) ∨ ∃ j : Nat, j < n ∧ x = nI j := by
  rcases pk_ix x hn with h | h | h
  · exact Or.inl (Or.inl h)
  · exact Or.inl (Or.inr h)
  · exact Or.inr h
theorem jn_ge {x : Int32} {n : Nat} (hn : n + 1 < 2147483648) : nI (n + 1) ≤ x ↔ nI n < x := by
  rw [fa_le, fa_lt, nI_toInt hn, nI_toInt (by omega)]
  omega
theorem jx_nge {x y : Int32} (h : x < y) : (y ≤ x) = False := eq_false (by rw [fa_lt] at h; rw [fa_le]; omega)
theorem jn_nle {x : Int32} {n : Nat} (hn : n + 1 < 2147483648) (h : nI (n + 1) ≤ x) : ¬ x ≤ nI n := by
  rw [fa_le, nI_toInt hn] at h
  rw [fa_le, nI_toInt (by omega)]
  omega
section TPM
variable {d : Nat} {M : jx_M} {s : tp_S} {q : Int32 → jx_M → Prop}
theorem tq_within {v a b : Int32} : jx_I d mX8_within [.int v, .int a, .int b] M q ↔ q (if v < a then 0 else if b < v then 0 else 1) M := by
  simp (disch := first | assumption | omega | decide) only [jx_qI_a, jx_qV_a, jx_qL_a, jn_LL, true_or, or_true, true_and, and_true, false_or, or_false, false_and, and_false, if_true, if_false, not_true_eq_false, not_false_eq_true, jx_tab, kX8_within, eX8_within]
  rw [jq_ite, jq_ite]
theorem tq_isMonths_y {m : Nat} (hm : m < 10) : jx_I (d + 1) mX8_isMonths [.int (nI m)] M q ↔ q 1 M := by
  simp (disch := first | assumption | omega | decide) only [jx_qI_a, jx_qV_a, jx_qL_a, jn_lt, jn_le, jn_eq, jn_L, jn_A, jn_N, jn_LL, jn_add, jn_mul, jn_sub, jn_cl, jn_vin, jn_shl1, jn_shr, jn_or, jn_l_or0, jn_and1, jo_ltT, jo_ltF, jo_leT, jo_leF, jo_eqT, jo_eqF, true_or, or_true, true_and, and_true, false_or, or_false, false_and, and_false, if_true, if_false, not_true_eq_false, not_false_eq_true, jx_tab, kX8_isMonths, eX8_isMonths, tq_within]
theorem tq_isMonths_n {x : Int32} (hx : x < 0 ∨ nI 10 ≤ x) : jx_I (d + 1) mX8_isMonths [.int x] M q ↔ q 0 M := by
  have e : (9 : Int32) < x ↔ nI 10 ≤ x := (jn_ge (n := 9) (by decide)).symm
  by_cases h : x < 0
  · simp (disch := first | assumption | omega | decide) only [jx_qI_a, jx_qV_a, jx_qL_a, jn_LL, true_or, or_true, true_and, and_true, false_or, or_false, false_and, and_false, if_true, if_false, not_true_eq_false, not_false_eq_true, jx_tab, kX8_isMonths, eX8_isMonths, tq_within, h]
  · have h2 := hx.resolve_left h
    simp (disch := first | assumption | omega | decide) only [jx_qI_a, jx_qV_a, jx_qL_a, jn_LL, true_or, or_true, true_and, and_true, false_or, or_false, false_and, and_false, if_true, if_false, not_true_eq_false, not_false_eq_true, jx_tab, kX8_isMonths, eX8_isMonths, tq_within, h, e, h2]
theorem tq_isSheet_y {m : Nat} (hm : m < 4) : jx_I (d + 1) mX8_isSheet [.int (nI m)] M q ↔ q 1 M := by
  simp (disch := first | assumption | omega | decide) only [jx_qI_a, jx_qV_a, jx_qL_a, jn_lt, jn_le, jn_eq, jn_L, jn_A, jn_N, jn_LL, jn_add, jn_mul, jn_sub, jn_cl, jn_vin, jn_shl1, jn_shr, jn_or, jn_l_or0, jn_and1, jo_ltT, jo_ltF, jo_leT, jo_leF, jo_eqT, jo_eqF, true_or, or_true, true_and, and_true, false_or, or_false, false_and, and_false, if_true, if_false, not_true_eq_false, not_false_eq_true, jx_tab, kX8_isSheet, eX8_isSheet, tq_within]
theorem tq_isSheet_n {x : Int32} (hx : x < 0 ∨ nI 4 ≤ x) : jx_I (d + 1) mX8_isSheet [.int x] M q ↔ q 0 M := by
  have e : (3 : Int32) < x ↔ nI 4 ≤ x := (jn_ge (n := 3) (by decide)).symm
  by_cases h : x < 0
  · simp (disch := first | assumption | omega | decide) only [jx_qI_a, jx_qV_a, jx_qL_a, jn_LL, true_or, or_true, true_and, and_true, false_or, or_false, false_and, and_false, if_true, if_false, not_true_eq_false, not_false_eq_true, jx_tab, kX8_isSheet, eX8_isSheet, tq_within, h]
  · have h2 := hx.resolve_left h
    simp (disch := first | assumption | omega | decide) only [jx_qI_a, jx_qV_a, jx_qL_a, jn_LL, true_or, or_true, true_and, and_true, false_or, or_false, false_and, and_false, if_true, if_false, not_true_eq_false, not_false_eq_true, jx_tab, kX8_isSheet, eX8_isSheet, tq_within, h, e, h2]
theorem tq_isSort_y {m : Nat} (hm : m < 3) : jx_I (d + 1) mX8_isSort [.int (nI m)] M q ↔ q 1 M := by
  simp (disch := first | assumption | omega | decide) only [jx_qI_a, jx_qV_a, jx_qL_a, jn_lt, jn_le, jn_eq, jn_L, jn_A, jn_N, jn_LL, jn_add, jn_mul, jn_sub, jn_cl, jn_vin, jn_shl1, jn_shr, jn_or, jn_l_or0, jn_and1, jo_ltT, jo_ltF, jo_leT, jo_leF, jo_eqT, jo_eqF, true_or, or_true, true_and, and_true, false_or, or_false, false_and, and_false, if_true, if_false, not_true_eq_false, not_false_eq_true, jx_tab, kX8_isSort, eX8_isSort, tq_within]
theorem tq_isSort_n {x : Int32} (hx : x < 0 ∨ nI 3 ≤ x) : jx_I (d + 1) mX8_isSort [.int x] M q ↔ q 0 M := by
  have e : (2 : Int32) < x ↔ nI 3 ≤ x := (jn_ge (n := 2) (by decide)).symm
  by_cases h : x < 0
  · simp (disch := first | assumption | omega | decide) only [jx_qI_a, jx_qV_a, jx_qL_a, jn_LL, true_or, or_true, true_and, and_true, false_or, or_false, false_and, and_false, if_true, if_false, not_true_eq_false, not_false_eq_true, jx_tab, kX8_isSort, eX8_isSort, tq_within, h]
  · have h2 := hx.resolve_left h
    simp (disch := first | assumption | omega | decide) only [jx_qI_a, jx_qV_a, jx_qL_a, jn_LL, true_or, or_true, true_and, and_true, false_or, or_false, false_and, and_false, if_true, if_false, not_true_eq_false, not_false_eq_true, jx_tab, kX8_isSort, eX8_isSort, tq_within, h, e, h2]
theorem tq_fails {k : Int32} : jx_I d mX8_fails [.ref 36, .int k] M q ↔ q (-10 - k) (jx_up M 36 0 k) := by
  simp (disch := first | assumption | omega | decide) only [jx_qI_a, jx_qV_a, jx_qL_a, jn_LL, true_or, or_true, true_and, and_true, false_or, or_false, false_and, and_false, if_true, if_false, not_true_eq_false, not_false_eq_true, jx_tab, kX8_fails, eX8_fails]
theorem tq_isPerson_y (hr : tp_rg s) (hD : tp_D M s) {p : Nat} (hp : p < s 0 0) : jx_I d mX8_isPerson [.ref 36, .int (nI p)] M q ↔ q 1 M := by
  obtain ⟨r1, r2, r3, r4, r5, r6⟩ := id hr
  simp (disch := first | assumption | omega | decide) only [jx_qI_a, jx_qV_a, jx_qL_a, jn_lt, jn_le, jn_eq, jn_L, jn_A, jn_N, jn_LL, jn_add, jn_mul, jn_sub, jn_cl, jn_vin, jn_shl1, jn_shr, jn_or, jn_l_or0, jn_and1, jo_ltT, jo_ltF, jo_leT, jo_leF, jo_eqT, jo_eqF, true_or, or_true, true_and, and_true, false_or, or_false, false_and, and_false, if_true, if_false, not_true_eq_false, not_false_eq_true, jx_tab, kX8_isPerson, eX8_isPerson, hD.1]
theorem tq_isPerson_n (hr : tp_rg s) (hD : tp_D M s) {x : Int32} (hx : x < 0 ∨ nI (s 0 0) ≤ x) : jx_I d mX8_isPerson [.ref 36, .int x] M q ↔ q 0 M := by
  by_cases h : x < 0
  · simp (disch := first | assumption | omega | decide) only [jx_qI_a, jx_qV_a, jx_qL_a, jn_LL, true_or, or_true, true_and, and_true, false_or, or_false, false_and, and_false, if_true, if_false, not_true_eq_false, not_false_eq_true, jx_tab, kX8_isPerson, eX8_isPerson, hD.1, h]
  · have h2 := hx.resolve_left h
    simp (disch := first | assumption | omega | decide) only [jx_qI_a, jx_qV_a, jx_qL_a, jn_LL, true_or, or_true, true_and, and_true, false_or, or_false, false_and, and_false, if_true, if_false, not_true_eq_false, not_false_eq_true, jx_tab, kX8_isPerson, eX8_isPerson, hD.1, h, h2]
theorem tq_isClap_y (hr : tp_rg s) (hD : tp_D M s) {p : Nat} (hp : p < s 0 1) : jx_I d mX8_isClap [.ref 36, .int (nI p)] M q ↔ q 1 M := by
  obtain ⟨r1, r2, r3, r4, r5, r6⟩ := id hr
  simp (disch := first | assumption | omega | decide) only [jx_qI_a, jx_qV_a, jx_qL_a, jn_lt, jn_le, jn_eq, jn_L, jn_A, jn_N, jn_LL, jn_add, jn_mul, jn_sub, jn_cl, jn_vin, jn_shl1, jn_shr, jn_or, jn_l_or0, jn_and1, jo_ltT, jo_ltF, jo_leT, jo_leF, jo_eqT, jo_eqF, true_or, or_true, true_and, and_true, false_or, or_false, false_and, and_false, if_true, if_false, not_true_eq_false, not_false_eq_true, jx_tab, kX8_isClap, eX8_isClap, hD.2.1]
theorem tq_isClap_n (hr : tp_rg s) (hD : tp_D M s) {x : Int32} (hx : x < 0 ∨ nI (s 0 1) ≤ x) : jx_I d mX8_isClap [.ref 36, .int x] M q ↔ q 0 M := by
  by_cases h : x < 0
  · simp (disch := first | assumption | omega | decide) only [jx_qI_a, jx_qV_a, jx_qL_a, jn_LL, true_or, or_true, true_and, and_true, false_or, or_false, false_and, and_false, if_true, if_false, not_true_eq_false, not_false_eq_true, jx_tab, kX8_isClap, eX8_isClap, hD.2.1, h]
  · have h2 := hx.resolve_left h
    simp (disch := first | assumption | omega | decide) only [jx_qI_a, jx_qV_a, jx_qL_a, jn_LL, true_or, or_true, true_and, and_true, false_or, or_false, false_and, and_false, if_true, if_false, not_true_eq_false, not_false_eq_true, jx_tab, kX8_isClap, eX8_isClap, hD.2.1, h, h2]
theorem tq_loudOf (hr : tp_rg s) (hD : tp_D M s) {c m : Nat} (hc : c < s 0 1) (hm : m < 100) : jx_I d mX8_loudOf [.ref 36, .int (nI c), .int (nI m)] M q ↔ q (nI (tp_lo s c m)) M := by
  obtain ⟨r1, r2, r3, r4, r5, r6⟩ := id hr
  obtain ⟨c1, c2, c3, c4, c5, c6⟩ := id hD
  obtain ⟨g1, g2, g3, g4⟩ := r6 c hc
  obtain ⟨k3, k4, k5⟩ := c6 c hc
  simp (disch := first | assumption | omega | decide) only [jx_qI_a, jx_qV_a, jx_qL_a, jn_lt, jn_le, jn_eq, jn_L, jn_A, jn_N, jn_LL, jn_add, jn_mul, jn_sub, jn_cl, jn_vin, jn_shl1, jn_shr, jn_or, jn_l_or0, jn_and1, jo_ltT, jo_ltF, jo_leT, jo_leF, jo_eqT, jo_eqF, true_or, or_true, true_and, and_true, false_or, or_false, false_and, and_false, if_true, if_false, not_true_eq_false, not_false_eq_true, jx_tab, kX8_loudOf, eX8_loudOf, k3, k4, c3, tp_lo]
  by_cases e2 : s 3 c = 2
  · rw [if_neg (by omega), if_neg (by omega), if_pos e2]
  · rw [if_neg e2]
    by_cases e1 : s 3 c = 1
    · rw [if_neg (by omega), if_pos e1, if_pos e1]
    · rw [if_pos (by omega), if_neg e1]
theorem tq_clapsOf_l (hr : tp_rg s) (hD : tp_D M s) {p : Nat} (hp : p < 100) {Q : jx_Po} : ∀ k c, c + k = s 0 1 → (jx_Ev d mX8_clapsOf 4 [some (.ref 36), some (.int (nI p)), some (.int (nI (tp_cf s p c))), some (.int (nI c))] [] M Q ↔ Q [.int (nI (tp_cf s p (s 0 1)))] M)
  | 0, c, h => by
    have h : c = s 0 1 := h
    subst h
    obtain ⟨r1, r2, r3, r4, r5, r6⟩ := id hr
    rw [eX8_clapsOf_4]
    simp (disch := first | assumption | omega | decide) only [jx_qI_a, jx_qV_a, jx_qL_a, jn_lt, jn_le, jn_eq, jn_L, jn_A, jn_N, jn_LL, jn_add, jn_mul, jn_sub, jn_cl, jn_vin, jn_shl1, jn_shr, jn_or, jn_l_or0, jn_and1, jo_ltT, jo_ltF, jo_leT, jo_leF, jo_eqT, jo_eqF, true_or, or_true, true_and, and_true, false_or, or_false, false_and, and_false, if_true, if_false, not_true_eq_false, not_false_eq_true, jx_tab, eX8_clapsOf, hD.2.1]
  | k + 1, c, h => by
    have ih := tq_clapsOf_l hr hD hp (Q := Q) k (c + 1) (by omega)
    have hlt := tp_cf_lt s p c
    have hc : c < s 0 1 := by omega
    obtain ⟨r1, r2, r3, r4, r5, r6⟩ := id hr
    obtain ⟨g1, g2, g3, g4⟩ := r6 c hc
    obtain ⟨k3, k4, k5⟩ := hD.2.2.2.2.2 c hc
    rw [eX8_clapsOf_4]
    by_cases h5 : s 5 c = p
    · rw [tp_cf, if_pos ⟨hc, h5⟩] at ih
      simp (disch := first | assumption | omega | decide) only [jx_qI_a, jx_qV_a, jx_qL_a, jn_lt, jn_le, jn_eq, jn_L, jn_A, jn_N, jn_LL, jn_add, jn_mul, jn_sub, jn_cl, jn_vin, jn_shl1, jn_shr, jn_or, jn_l_or0, jn_and1, jo_ltT, jo_ltF, jo_leT, jo_leF, jo_eqT, jo_eqF, true_or, or_true, true_and, and_true, false_or, or_false, false_and, and_false, if_true, if_false, not_true_eq_false, not_false_eq_true, jx_tab, eX8_clapsOf, hD.2.1, k5, ih]
    · rw [tp_cf, if_neg (fun z => h5 z.2), Nat.or_zero] at ih
      simp (disch := first | assumption | omega | decide) only [jx_qI_a, jx_qV_a, jx_qL_a, jn_lt, jn_le, jn_eq, jn_L, jn_A, jn_N, jn_LL, jn_add, jn_mul, jn_sub, jn_cl, jn_vin, jn_shl1, jn_shr, jn_or, jn_l_or0, jn_and1, jo_ltT, jo_ltF, jo_leT, jo_leF, jo_eqT, jo_eqF, true_or, or_true, true_and, and_true, false_or, or_false, false_and, and_false, if_true, if_false, not_true_eq_false, not_false_eq_true, jx_tab, eX8_clapsOf, hD.2.1, k5, ih, jn_or_0]
theorem tq_clapsOf (hr : tp_rg s) (hD : tp_D M s) {p : Nat} (hp : p < 100) : jx_I d mX8_clapsOf [.ref 36, .int (nI p)] M q ↔ q (nI (tp_cf s p 6)) M := by
  have h := tq_clapsOf_l (d := d) hr hD hp (Q := jx_qI q) (s 0 1) 0 (Nat.zero_add _)
  rw [jx_qI_a, ← tp_cf_top s p 6 hr.2.1] at h
  simp (disch := first | assumption | omega | decide) only [jx_qI_a, jx_qV_a, jx_qL_a, jn_LL, true_or, or_true, true_and, and_true, false_or, or_false, false_and, and_false, if_true, if_false, not_true_eq_false, not_false_eq_true, jx_tab, kX8_clapsOf, eX8_clapsOf]
  exact h
/-- the class's tests of numbers -/
theorem tp_isMonth_y {m : Nat} (hm : m < 10) : jx_I d mX7_isMonth [.int (nI m)] M q ↔ q 1 M := by
  simp (disch := first | assumption | omega | decide) only [jx_qI_a, jx_qV_a, jx_qL_a, jn_lt, jn_le, jn_eq, jn_L, jn_A, jn_N, jn_LL, jn_add, jn_mul, jn_sub, jn_cl, jn_vin, jn_shl1, jn_shr, jn_or, jn_l_or0, jn_and1, jo_ltT, jo_ltF, jo_leT, jo_leF, jo_eqT, jo_eqF, true_or, or_true, true_and, and_true, false_or, or_false, false_and, and_false, if_true, if_false, not_true_eq_false, not_false_eq_true, jx_tab, kX7_isMonth, eX7_isMonth]
theorem tp_isMonth_n {x : Int32} (hx : x < 0 ∨ nI 10 ≤ x) : jx_I d mX7_isMonth [.int x] M q ↔ q 0 M := by
  have e : (9 : Int32) < x ↔ nI 10 ≤ x := (jn_ge (n := 9) (by decide)).symm
  by_cases h : x < 0
  · simp (disch := first | assumption | omega | decide) only [jx_qI_a, jx_qV_a, jx_qL_a, jn_LL, true_or, or_true, true_and, and_true, false_or, or_false, false_and, and_false, if_true, if_false, not_true_eq_false, not_false_eq_true, jx_tab, kX7_isMonth, eX7_isMonth, h]
  · have h2 := hx.resolve_left h
    simp (disch := first | assumption | omega | decide) only [jx_qI_a, jx_qV_a, jx_qL_a, jn_LL, true_or, or_true, true_and, and_true, false_or, or_false, false_and, and_false, if_true, if_false, not_true_eq_false, not_false_eq_true, jx_tab, kX7_isMonth, eX7_isMonth, h, e, h2]
theorem tp_isSheet_y {m : Nat} (hm : m < 4) : jx_I d mX7_isSheet [.int (nI m)] M q ↔ q 1 M := by
  simp (disch := first | assumption | omega | decide) only [jx_qI_a, jx_qV_a, jx_qL_a, jn_lt, jn_le, jn_eq, jn_L, jn_A, jn_N, jn_LL, jn_add, jn_mul, jn_sub, jn_cl, jn_vin, jn_shl1, jn_shr, jn_or, jn_l_or0, jn_and1, jo_ltT, jo_ltF, jo_leT, jo_leF, jo_eqT, jo_eqF, true_or, or_true, true_and, and_true, false_or, or_false, false_and, and_false, if_true, if_false, not_true_eq_false, not_false_eq_true, jx_tab, kX7_isSheet, eX7_isSheet]
theorem tp_isSheet_n {x : Int32} (hx : x < 0 ∨ nI 4 ≤ x) : jx_I d mX7_isSheet [.int x] M q ↔ q 0 M := by
  have e : (4 : Int32) ≤ x ↔ nI 4 ≤ x := Iff.rfl
  by_cases h : x < 0
  · simp (disch := first | assumption | omega | decide) only [jx_qI_a, jx_qV_a, jx_qL_a, jn_LL, true_or, or_true, true_and, and_true, false_or, or_false, false_and, and_false, if_true, if_false, not_true_eq_false, not_false_eq_true, jx_tab, kX7_isSheet, eX7_isSheet, h]
  · have h2 := hx.resolve_left h
    simp (disch := first | assumption | omega | decide) only [jx_qI_a, jx_qV_a, jx_qL_a, jn_LL, true_or, or_true, true_and, and_true, false_or, or_false, false_and, and_false, if_true, if_false, not_true_eq_false, not_false_eq_true, jx_tab, kX7_isSheet, eX7_isSheet, h, e, h2]
theorem tp_isLane_y {m : Nat} (hm : m < 3) : jx_I d mX7_isLane [.int (nI m)] M q ↔ q 1 M := by
  simp (disch := first | assumption | omega | decide) only [jx_qI_a, jx_qV_a, jx_qL_a, jn_lt, jn_le, jn_eq, jn_L, jn_A, jn_N, jn_LL, jn_add, jn_mul, jn_sub, jn_cl, jn_vin, jn_shl1, jn_shr, jn_or, jn_l_or0, jn_and1, jo_ltT, jo_ltF, jo_leT, jo_leF, jo_eqT, jo_eqF, true_or, or_true, true_and, and_true, false_or, or_false, false_and, and_false, if_true, if_false, not_true_eq_false, not_false_eq_true, jx_tab, kX7_isLane, eX7_isLane]
theorem tp_isLane_n {x : Int32} (hx : x < 0 ∨ nI 3 ≤ x) : jx_I d mX7_isLane [.int x] M q ↔ q 0 M := by
  have e : (2 : Int32) < x ↔ nI 3 ≤ x := (jn_ge (n := 2) (by decide)).symm
  by_cases h : x < 0
  · simp (disch := first | assumption | omega | decide) only [jx_qI_a, jx_qV_a, jx_qL_a, jn_LL, true_or, or_true, true_and, and_true, false_or, or_false, false_and, and_false, if_true, if_false, not_true_eq_false, not_false_eq_true, jx_tab, kX7_isLane, eX7_isLane, h]
  · have h2 := hx.resolve_left h
    simp (disch := first | assumption | omega | decide) only [jx_qI_a, jx_qV_a, jx_qL_a, jn_LL, true_or, or_true, true_and, and_true, false_or, or_false, false_and, and_false, if_true, if_false, not_true_eq_false, not_false_eq_true, jx_tab, kX7_isLane, eX7_isLane, h, e, h2]
theorem tp_faultAnswer {k : Int32} : jx_I d mX7_faultAnswer [.ref 0, .int k] M q ↔ q (-10 - k) (jx_up M 0 9 k) := by
  simp (disch := first | assumption | omega | decide) only [jx_qI_a, jx_qV_a, jx_qL_a, jn_LL, true_or, or_true, true_and, and_true, false_or, or_false, false_and, and_false, if_true, if_false, not_true_eq_false, not_false_eq_true, jx_tab, kX7_faultAnswer, eX7_faultAnswer]
end TPM
