/-! the call copy -/
section TPC
variable {d : Nat} {M : jx_M}
theorem tq_cp_u {k i o j n : Nat} (hk : k < 4) (ho : o < 4) (hi : i + n ≤ 60) (hj : j + n ≤ 60) (hab : 60 * k + i < 60 * o + j ∨ 60 * o + j + n ≤ 60 * k + i) {l6 : Option Value} {Q : jx_Po} (M : jx_M) (kk : ∀ M' : jx_M, (∀ a b, a ≠ 39 → M' a b = M a b) → (∀ x, M' 39 x = if 60 * o + j ≤ x ∧ x < 60 * o + j + n then M 39 (60 * k + i + (x - (60 * o + j))) else M 39 x) → Q [.int (nI n)] M') : ∀ t q (N : jx_M) (l9 : Option Value), q + t = n → (∀ a b, a ≠ 39 → N a b = M a b) → (∀ x, N 39 x = if 60 * o + j + (n - q) ≤ x ∧ x < 60 * o + j + n then M 39 (60 * k + i + (x - (60 * o + j))) else M 39 x) → jx_Ev (d + 20) mX8_copy 166 [some (.ref 36), some (.int (nI k)), some (.int (nI i)), some (.int (nI o)), some (.int (nI j)), some (.int (nI n)), l6, some (.int 1), some (.int (nI q)), l9] [] N Q
  | 0, q, N, l9, h, e1, e2 => by
    have h : q = n := h
    subst h
    have g := kk N e1 (fun x => by rw [e2 x, Nat.sub_self, Nat.add_zero])
    rw [eX8_copy_166]
    simp (disch := first | assumption | omega | decide) only [jx_qI_a, jx_qV_a, jx_qL_a, jn_lt, jn_le, jn_eq, jn_L, jn_A, jn_N, jn_LL, jn_add, jn_mul, jn_sub, jn_cl, jn_vin, jn_shl1, jn_shr, jn_or, jn_l_or0, jn_and1, jo_ltT, jo_ltF, jo_leT, jo_leF, jo_eqT, jo_eqF, true_or, or_true, true_and, and_true, false_or, or_false, false_and, and_false, if_true, if_false, not_true_eq_false, not_false_eq_true, jx_tab, eX8_copy, g]
  | t + 1, q, N, l9, h, e1, e2 => by
    have ih := tq_cp_u hk ho hi hj hab (l6 := l6) (Q := Q) M kk t (q + 1) (jx_up N 39 (60 * o + j + (n - 1 - q)) (N 39 (60 * k + i + (n - 1 - q)))) (some (.int (nI (n - 1 - q)))) (by omega) (fun a b z => by rw [jx_upE, if_neg (by omega)]; exact e1 a b z) (fun x => by
      rw [jx_upE]
      by_cases ex : x = 60 * o + j + (n - 1 - q)
      · rw [if_pos ⟨rfl, ex⟩, if_pos (by omega), e2, if_neg (by omega), ex]
        congr 1
        omega
      · rw [if_neg (fun z => ex z.2), e2]
        by_cases c : 60 * o + j + (n - q) ≤ x ∧ x < 60 * o + j + n
        · rw [if_pos c, if_pos (by omega)]
        · rw [if_neg c, if_neg (by omega)])
    rw [eX8_copy_166]
    simp (disch := first | assumption | omega | decide) only [jx_qI_a, jx_qV_a, jx_qL_a, jn_lt, jn_le, jn_eq, jn_L, jn_A, jn_N, jn_LL, jn_add, jn_mul, jn_sub, jn_cl, jn_vin, jn_shl1, jn_shr, jn_or, jn_l_or0, jn_and1, jo_ltT, jo_ltF, jo_leT, jo_leF, jo_eqT, jo_eqF, true_or, or_true, true_and, and_true, false_or, or_false, false_and, and_false, if_true, if_false, not_true_eq_false, not_false_eq_true, jx_tab, eX8_copy, ih]
theorem tq_cp_d {k i o j n : Nat} (hk : k < 4) (ho : o < 4) (hi : i + n ≤ 60) (hj : j + n ≤ 60) (hab : 60 * o + j ≤ 60 * k + i ∨ 60 * k + i + n ≤ 60 * o + j) {l6 : Option Value} {Q : jx_Po} (M : jx_M) (kk : ∀ M' : jx_M, (∀ a b, a ≠ 39 → M' a b = M a b) → (∀ x, M' 39 x = if 60 * o + j ≤ x ∧ x < 60 * o + j + n then M 39 (60 * k + i + (x - (60 * o + j))) else M 39 x) → Q [.int (nI n)] M') : ∀ t q (N : jx_M) (l9 : Option Value), q + t = n → (∀ a b, a ≠ 39 → N a b = M a b) → (∀ x, N 39 x = if 60 * o + j ≤ x ∧ x < 60 * o + j + q then M 39 (60 * k + i + (x - (60 * o + j))) else M 39 x) → jx_Ev (d + 20) mX8_copy 166 [some (.ref 36), some (.int (nI k)), some (.int (nI i)), some (.int (nI o)), some (.int (nI j)), some (.int (nI n)), l6, some (.int 0), some (.int (nI q)), l9] [] N Q
  | 0, q, N, l9, h, e1, e2 => by
    have h : q = n := h
    subst h
    have g := kk N e1 e2
    rw [eX8_copy_166]
    simp (disch := first | assumption | omega | decide) only [jx_qI_a, jx_qV_a, jx_qL_a, jn_lt, jn_le, jn_eq, jn_L, jn_A, jn_N, jn_LL, jn_add, jn_mul, jn_sub, jn_cl, jn_vin, jn_shl1, jn_shr, jn_or, jn_l_or0, jn_and1, jo_ltT, jo_ltF, jo_leT, jo_leF, jo_eqT, jo_eqF, true_or, or_true, true_and, and_true, false_or, or_false, false_and, and_false, if_true, if_false, not_true_eq_false, not_false_eq_true, jx_tab, eX8_copy, g]
  | t + 1, q, N, l9, h, e1, e2 => by
    have ih := tq_cp_d hk ho hi hj hab (l6 := l6) (Q := Q) M kk t (q + 1) (jx_up N 39 (60 * o + j + q) (N 39 (60 * k + i + q))) (some (.int (nI q))) (by omega) (fun a b z => by rw [jx_upE, if_neg (by omega)]; exact e1 a b z) (fun x => by
      rw [jx_upE]
      by_cases ex : x = 60 * o + j + q
      · rw [if_pos ⟨rfl, ex⟩, if_pos (by omega), e2, if_neg (by omega), ex]
        congr 1
        omega
      · rw [if_neg (fun z => ex z.2), e2]
        by_cases c : 60 * o + j ≤ x ∧ x < 60 * o + j + q
        · rw [if_pos c, if_pos (by omega)]
        · rw [if_neg c, if_neg (by omega)])
    rw [eX8_copy_166]
    simp (disch := first | assumption | omega | decide) only [jx_qI_a, jx_qV_a, jx_qL_a, jn_lt, jn_le, jn_eq, jn_L, jn_A, jn_N, jn_LL, jn_add, jn_mul, jn_sub, jn_cl, jn_vin, jn_shl1, jn_shr, jn_or, jn_l_or0, jn_and1, jo_ltT, jo_ltF, jo_leT, jo_leF, jo_eqT, jo_eqF, true_or, or_true, true_and, and_true, false_or, or_false, false_and, and_false, if_true, if_false, not_true_eq_false, not_false_eq_true, jx_tab, eX8_copy, ih]
/-- the reference, where both sheets are there and of one sort -/
theorem tq_cp_y {k i o j n len len' : Nat} {N : jx_M} {x : Int32} (hk : k < 4) (ho : o < 4) (e37 : N 37 k = x) (e37' : N 37 o = x) (hx9 : ¬ x = -9) (e38 : N 38 k = nI len) (e38' : N 38 o = nI len') (hl : len ≤ 60) (hl' : len' ≤ 60) (hi : i + n ≤ len) (hj : j + n ≤ len') {q : Int32 → jx_M → Prop} (kk : ∀ M' : jx_M, (∀ a b, a ≠ 39 → M' a b = jx_up N 36 0 0 a b) → (∀ x, M' 39 x = if 60 * o + j ≤ x ∧ x < 60 * o + j + n then N 39 (60 * k + i + (x - (60 * o + j))) else N 39 x) → q (nI n) M') : jx_I (d + 20) mX8_copy [.ref 36, .int (nI k), .int (nI i), .int (nI o), .int (nI j), .int (nI n)] N q := by
  have g4 := fun M d q => tq_isSheet_y (d := d) (q := q) (M := M) hk
  have g5 := fun M d q => tq_isSheet_y (d := d) (q := q) (M := M) ho
  have m : ∀ a b, ¬ a = 36 → jx_up N 36 0 0 a b = N a b := fun a b z => by rw [jx_upE, if_neg (by omega)]
  have s37 := (m 37 k (by decide)).trans e37
  have s37' := (m 37 o (by decide)).trans e37'
  have s38 := (m 38 k (by decide)).trans e38
  have s38' := (m 38 o (by decide)).trans e38'
  have n0 : (0 : Int32) = nI 0 := fa_lit 0
  by_cases hij : i < j
  · have g := tq_cp_u (d := d) (l6 := some (.int 1)) (Q := jx_qI q) hk ho (i := i) (j := j) (n := n) (by omega) (by omega) (by omega) (jx_up N 36 0 0) (fun M' e1 e2 => by
      rw [jx_qI_a]
      exact kk M' e1 (fun x => by rw [e2 x, m 39 _ (by decide), m 39 _ (by decide)])) n 0 (jx_up N 36 0 0) none (Nat.zero_add _) (fun _ _ _ => rfl) (fun x => by rw [if_neg (by omega)])
    rw [← n0] at g
    simp (maxSteps := 3000000) (disch := first | assumption | omega | decide) only [jx_qI_a, jx_qV_a, jx_qL_a, jn_lt, jn_le, jn_eq, jn_L, jn_A, jn_N, jn_LL, jn_add, jn_mul, jn_sub, jn_cl, jn_vin, jn_shl1, jn_shr, jn_or, jn_l_or0, jn_and1, jo_ltT, jo_ltF, jo_leT, jo_leF, jo_eqT, jo_eqF, true_or, or_true, true_and, and_true, false_or, or_false, false_and, and_false, if_true, if_false, not_true_eq_false, not_false_eq_true, jx_tab, kX8_copy, ↓eX8_copy, ↓g4, ↓g5, s37, s37', s38, s38', hx9]
    exact g
  · have g := tq_cp_d (d := d) (l6 := some (.int 1)) (Q := jx_qI q) hk ho (i := i) (j := j) (n := n) (by omega) (by omega) (by omega) (jx_up N 36 0 0) (fun M' e1 e2 => by
      rw [jx_qI_a]
      exact kk M' e1 (fun x => by rw [e2 x, m 39 _ (by decide), m 39 _ (by decide)])) n 0 (jx_up N 36 0 0) none (Nat.zero_add _) (fun _ _ _ => rfl) (fun x => by rw [if_neg (by omega)])
    rw [← n0] at g
    simp (maxSteps := 3000000) (disch := first | assumption | omega | decide) only [jx_qI_a, jx_qV_a, jx_qL_a, jn_lt, jn_le, jn_eq, jn_L, jn_A, jn_N, jn_LL, jn_add, jn_mul, jn_sub, jn_cl, jn_vin, jn_shl1, jn_shr, jn_or, jn_l_or0, jn_and1, jo_ltT, jo_ltF, jo_leT, jo_leF, jo_eqT, jo_eqF, true_or, or_true, true_and, and_true, false_or, or_false, false_and, and_false, if_true, if_false, not_true_eq_false, not_false_eq_true, jx_tab, kX8_copy, ↓eX8_copy, ↓g4, ↓g5, s37, s37', s38, s38', hx9]
    exact g
theorem tq_cp_n {k o len len' : Nat} {N : jx_M} {x b e f : Int32} (hk : k < 4) (ho : o < 4) (e37 : N 37 k = x) (e37' : N 37 o = x) (hx9 : ¬ x = -9) (e38 : N 38 k = nI len) (e38' : N 38 o = nI len') (hl : len ≤ 60) (hl' : len' ≤ 60) (hn : ¬ ((0 ≤ f.toInt ∧ 0 ≤ b.toInt ∧ b.toInt + f.toInt ≤ (len : Int)) ∧ (0 ≤ f.toInt ∧ 0 ≤ e.toInt ∧ e.toInt + f.toInt ≤ (len' : Int)))) {q : Int32 → jx_M → Prop} (kk : q (-10 - 3) (jx_up (jx_up N 36 0 0) 36 0 3)) : jx_I (d + 20) mX8_copy [.ref 36, .int (nI k), .int b, .int (nI o), .int e, .int f] N q := by
  have g4 := fun M d q => tq_isSheet_y (d := d) (q := q) (M := M) hk
  have g5 := fun M d q => tq_isSheet_y (d := d) (q := q) (M := M) ho
  have m : ∀ a b, ¬ a = 36 → jx_up N 36 0 0 a b = N a b := fun a b z => by rw [jx_upE, if_neg (by omega)]
  have s37 := (m 37 k (by decide)).trans e37
  have s37' := (m 37 o (by decide)).trans e37'
  have s38 := (m 38 k (by decide)).trans e38
  have s38' := (m 38 o (by decide)).trans e38'
  by_cases hb : b < 0
  · simp (maxSteps := 3000000) (disch := first | assumption | omega | decide) only [jx_qI_a, jx_qV_a, jx_qL_a, jn_lt, jn_le, jn_eq, jn_L, jn_A, jn_N, jn_LL, jn_add, jn_mul, jn_sub, jn_cl, jn_vin, jn_shl1, jn_shr, jn_or, jn_l_or0, jn_and1, jo_ltT, jo_ltF, jo_leT, jo_leF, jo_eqT, jo_eqF, true_or, or_true, true_and, and_true, false_or, or_false, false_and, and_false, if_true, if_false, not_true_eq_false, not_false_eq_true, jx_tab, kX8_copy, ↓eX8_copy, ↓g4, ↓g5, s37, s37', s38, s38', hx9, hb, tq_fails, kk]
  · by_cases he : e < 0
    · simp (maxSteps := 3000000) (disch := first | assumption | omega | decide) only [jx_qI_a, jx_qV_a, jx_qL_a, jn_lt, jn_le, jn_eq, jn_L, jn_A, jn_N, jn_LL, jn_add, jn_mul, jn_sub, jn_cl, jn_vin, jn_shl1, jn_shr, jn_or, jn_l_or0, jn_and1, jo_ltT, jo_ltF, jo_leT, jo_leF, jo_eqT, jo_eqF, true_or, or_true, true_and, and_true, false_or, or_false, false_and, and_false, if_true, if_false, not_true_eq_false, not_false_eq_true, jx_tab, kX8_copy, ↓eX8_copy, ↓g4, ↓g5, s37, s37', s38, s38', hx9, hb, he, tq_fails, kk]
    · by_cases hf : f < 0
      · simp (maxSteps := 3000000) (disch := first | assumption | omega | decide) only [jx_qI_a, jx_qV_a, jx_qL_a, jn_lt, jn_le, jn_eq, jn_L, jn_A, jn_N, jn_LL, jn_add, jn_mul, jn_sub, jn_cl, jn_vin, jn_shl1, jn_shr, jn_or, jn_l_or0, jn_and1, jo_ltT, jo_ltF, jo_leT, jo_leF, jo_eqT, jo_eqF, true_or, or_true, true_and, and_true, false_or, or_false, false_and, and_false, if_true, if_false, not_true_eq_false, not_false_eq_true, jx_tab, kX8_copy, ↓eX8_copy, ↓g4, ↓g5, s37, s37', s38, s38', hx9, hb, he, hf, tq_fails, kk]
      · obtain ⟨i, hi, rfl⟩ := nI_of hb
        obtain ⟨j, hj, rfl⟩ := nI_of he
        obtain ⟨n, hn', rfl⟩ := nI_of hf
        rw [nI_toInt hi, nI_toInt hj, nI_toInt hn'] at hn
        by_cases h1 : i ≤ len
        · by_cases h2 : j ≤ len'
          · by_cases h3 : n ≤ len - i
            · have h4 : ¬ n ≤ len' - j := by omega
              simp (maxSteps := 3000000) (disch := first | assumption | omega | decide) only [jx_qI_a, jx_qV_a, jx_qL_a, jn_lt, jn_le, jn_eq, jn_L, jn_A, jn_N, jn_LL, jn_add, jn_mul, jn_sub, jn_cl, jn_vin, jn_shl1, jn_shr, jn_or, jn_l_or0, jn_and1, jo_ltT, jo_ltF, jo_leT, jo_leF, jo_eqT, jo_eqF, true_or, or_true, true_and, and_true, false_or, or_false, false_and, and_false, if_true, if_false, not_true_eq_false, not_false_eq_true, jx_tab, kX8_copy, ↓eX8_copy, ↓g4, ↓g5, s37, s37', s38, s38', hx9, tq_fails, kk]
            · simp (maxSteps := 3000000) (disch := first | assumption | omega | decide) only [jx_qI_a, jx_qV_a, jx_qL_a, jn_lt, jn_le, jn_eq, jn_L, jn_A, jn_N, jn_LL, jn_add, jn_mul, jn_sub, jn_cl, jn_vin, jn_shl1, jn_shr, jn_or, jn_l_or0, jn_and1, jo_ltT, jo_ltF, jo_leT, jo_leF, jo_eqT, jo_eqF, true_or, or_true, true_and, and_true, false_or, or_false, false_and, and_false, if_true, if_false, not_true_eq_false, not_false_eq_true, jx_tab, kX8_copy, ↓eX8_copy, ↓g4, ↓g5, s37, s37', s38, s38', hx9, tq_fails, kk]
          · simp (maxSteps := 3000000) (disch := first | assumption | omega | decide) only [jx_qI_a, jx_qV_a, jx_qL_a, jn_lt, jn_le, jn_eq, jn_L, jn_A, jn_N, jn_LL, jn_add, jn_mul, jn_sub, jn_cl, jn_vin, jn_shl1, jn_shr, jn_or, jn_l_or0, jn_and1, jo_ltT, jo_ltF, jo_leT, jo_leF, jo_eqT, jo_eqF, true_or, or_true, true_and, and_true, false_or, or_false, false_and, and_false, if_true, if_false, not_true_eq_false, not_false_eq_true, jx_tab, kX8_copy, ↓eX8_copy, ↓g4, ↓g5, s37, s37', s38, s38', hx9, tq_fails, kk]
        · simp (maxSteps := 3000000) (disch := first | assumption | omega | decide) only [jx_qI_a, jx_qV_a, jx_qL_a, jn_lt, jn_le, jn_eq, jn_L, jn_A, jn_N, jn_LL, jn_add, jn_mul, jn_sub, jn_cl, jn_vin, jn_shl1, jn_shr, jn_or, jn_l_or0, jn_and1, jo_ltT, jo_ltF, jo_leT, jo_leF, jo_eqT, jo_eqF, true_or, or_true, true_and, and_true, false_or, or_false, false_and, and_false, if_true, if_false, not_true_eq_false, not_false_eq_true, jx_tab, kX8_copy, ↓eX8_copy, ↓g4, ↓g5, s37, s37', s38, s38', hx9, tq_fails, kk]
end TPC
