/-! lose, sheet, put, cell -/
theorem tp_hasCells {d t len : Nat} {M : jx_M} {q : Int32 → jx_M → Prop} (hcl : jx_cl t = 4) (hl : M t 2 = nI len) (hlen : len ≤ 60) (x n : Int32) : jx_I d mX4_hasCells [.ref t, .int x, .int n] M q ↔ q (if 0 ≤ n.toInt ∧ 0 ≤ x.toInt ∧ x.toInt + n.toInt ≤ (len : Int) then 1 else 0) M := by
  simp (disch := first | assumption | omega | decide) only [jx_qI_a, jx_qV_a, jx_qL_a, jn_LL, true_or, or_true, true_and, and_true, false_or, or_false, false_and, and_false, if_true, if_false, not_true_eq_false, not_false_eq_true, jx_tab, kX4_hasCells, eX4_hasCells, hl]
  by_cases h1 : n < 0
  · rw [if_pos h1, if_neg]
    rintro ⟨q1, -⟩
    rw [fa_lt] at h1
    exact absurd h1 (by show ¬ n.toInt < 0; omega)
  · rw [if_neg h1]
    obtain ⟨b, hb, rfl⟩ := nI_of h1
    by_cases h2 : b ≤ len
    · have h2' : nI b ≤ nI len := (jn_le hb (by omega)).mpr h2
      have h2'' : ¬ nI len < nI b := by rw [jn_lt (by omega) hb]; omega
      simp only [h2', h2'', if_true, if_false]
      by_cases h3 : x < 0
      · rw [if_pos h3, if_neg]
        rintro ⟨-, q1, -⟩
        rw [fa_lt] at h3
        exact absurd h3 (by show ¬ x.toInt < 0; omega)
      · rw [if_neg h3]
        obtain ⟨a, ha, rfl⟩ := nI_of h3
        rw [jn_sub h2, nI_toInt ha, nI_toInt hb]
        by_cases h4 : a + b ≤ len
        · have e1 : ¬ nI (len - b) < nI a := by rw [jn_lt (by omega) ha]; omega
          have e2 : nI a ≤ nI (len - b) := by rw [jn_le ha (by omega)]; omega
          simp only [e1, e2, if_true, if_false]
          rw [if_pos (by omega)]
        · have e1 : nI (len - b) < nI a := by rw [jn_lt (by omega) ha]; omega
          have e2 : ¬ nI a ≤ nI (len - b) := by rw [jn_le ha (by omega)]; omega
          simp only [e1, e2, if_true, if_false]
          rw [if_neg (by omega)]
    · have h2' : ¬ nI b ≤ nI len := by rw [jn_le hb (by omega)]; exact h2
      have h2'' : nI len < nI b := by rw [jn_lt (by omega) hb]; omega
      simp only [h2', h2'', if_true, if_false]
      rw [if_neg]
      rintro ⟨-, q1, q2⟩
      rw [nI_toInt hb] at q2
      omega
section TPO5
variable {d : Nat} {M : jx_M} {q : Int32 → jx_M → Prop} {qv : jx_M → Prop}
theorem tp_J_s {M' : jx_M} {s : tp_S} {o : Nat} (h : tp_J M s o) (hsh' : tp_sh M') (e0 : M' 36 0 = M' 0 9) (e : ∀ a b, ¬ (28 ≤ a ∧ a ≤ 39 ∧ a ≠ 36) → ¬ (a = 0 ∧ b = 9) → ¬ (a = 36 ∧ b = 0) → M' a b = M a b) : tp_J M' s o := by
  obtain ⟨h1, h2, h3, h4, h5, h6, h7, h8, h9, h10⟩ := h
  have ho : o = 16 ∨ o = 22 := h1
  refine ⟨h1, ?_, ?_, h4, tp_C_fr h5 (fun a b q1 q2 => e a b (by omega) (by omega) (by omega)), tp_D_fr h6 (fun b q1 q2 => e 36 b (by omega) (by omega) (by omega)) (fun a b q1 q2 => e a b (by omega) (by omega) (by omega)), e0, ?_, tp_rd_fr h9 (fun a b q1 q2 => e a b (by omega) (by omega) (by omega)) (e 36 27 (by omega) (by omega) (by omega)) (fun a b q1 q2 => e a b (by omega) (by omega) (by omega)), hsh'⟩
  · rw [e 0 6 (by omega) (by omega) (by omega)]; exact h2
  · rw [e 0 7 (by omega) (by omega) (by omega)]; exact h3
  · rw [e 36 1 (by omega) (by omega) (by omega), e 0 8 (by omega) (by omega) (by omega)]; exact h8
theorem tp_s1_f2 {M' : jx_M} {k lane len : Nat} (h : tp_s1 M k lane len) (e1 : ∀ b, M' (28 + 2 * k) b = M (28 + 2 * k) b) (e2 : ∀ b, M' (28 + 2 * k + 1) b = M (28 + 2 * k + 1) b) (e3 : M' 37 k = M 37 k) (e4 : M' 38 k = M 38 k) (e5 : ∀ j, j < 60 → M' 39 (60 * k + j) = M 39 (60 * k + j)) : tp_s1 M' k lane len := by
  obtain ⟨h1, h2, h3, h4, h5, h6, h7⟩ := h
  exact ⟨h1, h2, by rw [e1]; exact h3, by rw [e1]; exact h4, by rw [e4]; exact h5, by rw [e1, e3]; exact h6, fun j hj => by rw [e5 j hj, e2]; exact h7 j hj⟩
theorem op_lose (h : tp_I M) (a : Int32) : jx_I (d + 20) mX7_lose [.ref 0, .int a] M (fun r M1 => jx_I (d + 20) mX8_lose [.ref 36, .int a] M1 (fun r2 M2 => r = r2 ∧ tp_I M2)) := by
  have hI := h
  obtain ⟨s, o, hJ⟩ := h
  obtain ⟨ho, h06, h07, hr, hC, hD, hf, ht, hrd, hsh⟩ := id hJ
  rcases jx_ix a (n := 4) (by omega) with hn | ⟨k, hk, rfl⟩
  · have g3 := fun M d q => tp_isSheet_n (d := d) (q := q) (M := M) hn
    have g4 := fun M d q => tq_isSheet_n (d := d) (q := q) (M := M) hn
    simp (disch := first | assumption | omega | decide) only [jx_qI_a, jx_qV_a, jx_qL_a, jn_LL, true_or, or_true, true_and, and_true, false_or, or_false, false_and, and_false, if_true, if_false, not_true_eq_false, not_false_eq_true, jx_tab, kX7_lose, eX7_lose, g3, g4, kX8_lose, eX8_lose, hI]
  · have g3 := fun M d q => tp_isSheet_y (d := d) (q := q) (M := M) hk
    have g4 := fun M d q => tq_isSheet_y (d := d) (q := q) (M := M) hk
    obtain ⟨t1, t2, t3, t4⟩ := tp_St hk
    obtain ⟨lane, len, hs⟩ := hsh k hk
    obtain ⟨h1, h2, h3, h4, h5, h6, h7⟩ := id hs
    have e37 : jx_up M (28 + 2 * k) 3 0 37 k = M 37 k := by rw [jx_upE, if_neg (by omega)]
    have fin : tp_I (jx_up (jx_up M (28 + 2 * k) 3 0) 37 k (-9)) := by
      refine ⟨s, o, tp_J_s hJ (fun j hj => ?_) ?_ (fun a b q1 q2 q3 => ?_)⟩
      · by_cases hjk : j = k
        · subst hjk
          refine ⟨lane, len, h1, h2, ?_, ?_, ?_, Or.inl ⟨?_, ?_⟩, fun i hi => ?_⟩
          · simp only [jx_upE]; rw [if_neg (by omega), if_neg (by omega)]; exact h3
          · simp only [jx_upE]; rw [if_neg (by omega), if_neg (by omega)]; exact h4
          · simp only [jx_upE]; rw [if_neg (by omega), if_neg (by omega)]; exact h5
          · rw [jx_upE, if_neg (by omega)]; simp [jx_upE]
          · simp [jx_upE]
          · simp only [jx_upE]; rw [if_neg (by omega), if_neg (by omega), if_neg (by omega), if_neg (by omega)]; exact h7 i hi
        · obtain ⟨lane', len', hs'⟩ := hsh j hj
          exact ⟨lane', len', tp_s1_f2 hs' (fun b => by simp only [jx_upE]; rw [if_neg (by omega), if_neg (by omega)]) (fun b => by simp only [jx_upE]; rw [if_neg (by omega), if_neg (by omega)]) (by simp only [jx_upE]; rw [if_neg (by omega), if_neg (by omega)]) (by simp only [jx_upE]; rw [if_neg (by omega), if_neg (by omega)]) (fun i hi => by simp only [jx_upE]; rw [if_neg (by omega), if_neg (by omega)])⟩
      · simp only [jx_upE]; rw [if_neg (by omega), if_neg (by omega), if_neg (by omega), if_neg (by omega)]; exact hf
      · simp only [jx_upE]; rw [if_neg (by omega), if_neg (by omega)]
    rcases h6 with ⟨a1, a2⟩ | ⟨a1, a2⟩
    · have hx : ∀ q : Int32 → jx_M → Prop, q 0 (jx_up M (28 + 2 * k) 3 0) → jx_I (d + 20) mX7_lose [.ref 0, .int (nI k)] M q := by
        intro q hq
        simp (disch := first | assumption | omega | decide) only [jx_qI_a, jx_qV_a, jx_qL_a, jn_lt, jn_le, jn_eq, jn_L, jn_A, jn_N, jn_LL, jn_add, jn_mul, jn_sub, jn_cl, jn_vin, jn_shl1, jn_shr, jn_or, jn_l_or0, jn_and1, jo_ltT, jo_ltF, jo_leT, jo_leF, jo_eqT, jo_eqF, true_or, or_true, true_and, and_true, false_or, or_false, false_and, and_false, if_true, if_false, not_true_eq_false, not_false_eq_true, jx_tab, kX7_lose, eX7_lose, g3, t4, a1, hq]
      have hm : ∀ q : Int32 → jx_M → Prop, q 0 (jx_up (jx_up M (28 + 2 * k) 3 0) 37 k (-9)) → jx_I (d + 20) mX8_lose [.ref 36, .int (nI k)] (jx_up M (28 + 2 * k) 3 0) q := by
        intro q hq
        simp (disch := first | assumption | omega | decide) only [jx_qI_a, jx_qV_a, jx_qL_a, jn_lt, jn_le, jn_eq, jn_L, jn_A, jn_N, jn_LL, jn_add, jn_mul, jn_sub, jn_cl, jn_vin, jn_shl1, jn_shr, jn_or, jn_l_or0, jn_and1, jo_ltT, jo_ltF, jo_leT, jo_leF, jo_eqT, jo_eqF, true_or, or_true, true_and, and_true, false_or, or_false, false_and, and_false, if_true, if_false, not_true_eq_false, not_false_eq_true, jx_tab, kX8_lose, eX8_lose, g4, e37, a2, hq]
      exact hx _ (hm _ ⟨rfl, fin⟩)
    · have hx : ∀ q : Int32 → jx_M → Prop, q 1 (jx_up M (28 + 2 * k) 3 0) → jx_I (d + 20) mX7_lose [.ref 0, .int (nI k)] M q := by
        intro q hq
        simp (disch := first | assumption | omega | decide) only [jx_qI_a, jx_qV_a, jx_qL_a, jn_lt, jn_le, jn_eq, jn_L, jn_A, jn_N, jn_LL, jn_add, jn_mul, jn_sub, jn_cl, jn_vin, jn_shl1, jn_shr, jn_or, jn_l_or0, jn_and1, jo_ltT, jo_ltF, jo_leT, jo_leF, jo_eqT, jo_eqF, true_or, or_true, true_and, and_true, false_or, or_false, false_and, and_false, if_true, if_false, not_true_eq_false, not_false_eq_true, jx_tab, kX7_lose, eX7_lose, g3, t4, a1, hq]
      have hm : ∀ q : Int32 → jx_M → Prop, q 1 (jx_up (jx_up M (28 + 2 * k) 3 0) 37 k (-9)) → jx_I (d + 20) mX8_lose [.ref 36, .int (nI k)] (jx_up M (28 + 2 * k) 3 0) q := by
        intro q hq
        simp (disch := first | assumption | omega | decide) only [jx_qI_a, jx_qV_a, jx_qL_a, jn_lt, jn_le, jn_eq, jn_L, jn_A, jn_N, jn_LL, jn_add, jn_mul, jn_sub, jn_cl, jn_vin, jn_shl1, jn_shr, jn_or, jn_l_or0, jn_and1, jo_ltT, jo_ltF, jo_leT, jo_leF, jo_eqT, jo_eqF, true_or, or_true, true_and, and_true, false_or, or_false, false_and, and_false, if_true, if_false, not_true_eq_false, not_false_eq_true, jx_tab, kX8_lose, eX8_lose, g4, e37, a2, hq]
      exact hx _ (hm _ ⟨rfl, fin⟩)
/-- the row is emptied -/
theorem tp_renew_l {t : Nat} (hcl : jx_cl t = 4) (hc2 : jx_cl (t + 1) = 9) (hz : jx_sz (t + 1) = 60) {l1 l2 : Option Value} {Q : jx_Po} : ∀ n i (M : jx_M), i + n = 60 → (∀ M' : jx_M, (∀ a b, a ≠ t + 1 → M' a b = M a b) → (∀ j, j < 60 → M' (t + 1) j = if j < i then M (t + 1) j else 0) → Q [] M') → jx_Ev d mX4_renew 17 [some (.ref t), l1, l2, some (.int (nI i))] [] M Q
  | 0, i, M, h, k => by
    have h : i = 60 := h
    subst h
    rw [eX4_renew_17]
    have := k M (fun _ _ _ => rfl) (fun j hj => by rw [if_pos hj])
    simp (disch := first | assumption | omega | decide) only [jx_qI_a, jx_qV_a, jx_qL_a, jn_lt, jn_le, jn_eq, jn_L, jn_A, jn_N, jn_LL, jn_add, jn_mul, jn_sub, jn_cl, jn_vin, jn_shl1, jn_shr, jn_or, jn_l_or0, jn_and1, jo_ltT, jo_ltF, jo_leT, jo_leF, jo_eqT, jo_eqF, true_or, or_true, true_and, and_true, false_or, or_false, false_and, and_false, if_true, if_false, not_true_eq_false, not_false_eq_true, jx_tab, eX4_renew, this]
  | n + 1, i, M, h, k => by
    have ih := tp_renew_l hcl hc2 hz (l1 := l1) (l2 := l2) (Q := Q) n (i + 1) (jx_up M (t + 1) i 0) (by omega) (fun M' e1 e2 => k M' (fun a b z => by rw [e1 a b z, jx_upE, if_neg (by omega)]) (fun j hj => by
      rw [e2 j hj, jx_upE]
      by_cases h1 : j < i
      · rw [if_pos (by omega), if_neg (by omega), if_pos h1]
      · by_cases h2 : j = i
        · rw [if_pos (by omega), if_pos ⟨rfl, h2⟩, if_neg h1]
        · rw [if_neg (by omega), if_neg h1]))
    rw [eX4_renew_17]
    simp (disch := first | assumption | omega | decide) only [jx_qI_a, jx_qV_a, jx_qL_a, jn_lt, jn_le, jn_eq, jn_L, jn_A, jn_N, jn_LL, jn_add, jn_mul, jn_sub, jn_cl, jn_vin, jn_shl1, jn_shr, jn_or, jn_l_or0, jn_and1, jo_ltT, jo_ltF, jo_leT, jo_leF, jo_eqT, jo_eqF, true_or, or_true, true_and, and_true, false_or, or_false, false_and, and_false, if_true, if_false, not_true_eq_false, not_false_eq_true, jx_tab, eX4_renew, hz, ih]
theorem tq_sheet_l {k : Nat} (hk : k < 4) {l2 l3 : Option Value} {Q : jx_Po} : ∀ n i (M : jx_M), i + n = 60 → (∀ M' : jx_M, (∀ a b, a ≠ 39 → M' a b = M a b) → (∀ x, M' 39 x = if 60 * k + i ≤ x ∧ x < 60 * k + 60 then 0 else M 39 x) → Q [.int 1] M') → jx_Ev d mX8_sheet 57 [some (.ref 36), some (.int (nI k)), l2, l3, some (.int (nI i))] [] M Q
  | 0, i, M, h, kk => by
    have h : i = 60 := h
    subst h
    rw [eX8_sheet_57]
    have := kk M (fun _ _ _ => rfl) (fun x => by rw [if_neg (by omega)])
    simp (disch := first | assumption | omega | decide) only [jx_qI_a, jx_qV_a, jx_qL_a, jn_lt, jn_le, jn_eq, jn_L, jn_A, jn_N, jn_LL, jn_add, jn_mul, jn_sub, jn_cl, jn_vin, jn_shl1, jn_shr, jn_or, jn_l_or0, jn_and1, jo_ltT, jo_ltF, jo_leT, jo_leF, jo_eqT, jo_eqF, true_or, or_true, true_and, and_true, false_or, or_false, false_and, and_false, if_true, if_false, not_true_eq_false, not_false_eq_true, jx_tab, eX8_sheet, this]
  | n + 1, i, M, h, kk => by
    have ih := tq_sheet_l hk (l2 := l2) (l3 := l3) (Q := Q) n (i + 1) (jx_up M 39 (60 * k + i) 0) (by omega) (fun M' e1 e2 => kk M' (fun a b z => by rw [e1 a b z, jx_upE, if_neg (by omega)]) (fun x => by
      rw [e2 x, jx_upE]
      by_cases h1 : x = 60 * k + i
      · rw [if_neg (by omega), if_pos ⟨rfl, h1⟩, if_pos (by omega)]
      · by_cases h2 : 60 * k + i ≤ x ∧ x < 60 * k + 60
        · rw [if_pos (by omega), if_pos h2]
        · rw [if_neg (by omega), if_neg (by omega), if_neg h2]))
    rw [eX8_sheet_57]
    simp (disch := first | assumption | omega | decide) only [jx_qI_a, jx_qV_a, jx_qL_a, jn_lt, jn_le, jn_eq, jn_L, jn_A, jn_N, jn_LL, jn_add, jn_mul, jn_sub, jn_cl, jn_vin, jn_shl1, jn_shr, jn_or, jn_l_or0, jn_and1, jo_ltT, jo_ltF, jo_leT, jo_leF, jo_eqT, jo_eqF, true_or, or_true, true_and, and_true, false_or, or_false, false_and, and_false, if_true, if_false, not_true_eq_false, not_false_eq_true, jx_tab, eX8_sheet, ih]
theorem op_sheet (h : tp_I M) (a b c : Int32) : jx_I (d + 20) mX7_sheet [.ref 0, .int a, .int b, .int c] M (fun r M1 => jx_I (d + 20) mX8_sheet [.ref 36, .int a, .int b, .int c] M1 (fun r2 M2 => r = r2 ∧ tp_I M2)) := by
  obtain ⟨s, o, hJ⟩ := h
  obtain ⟨ho, h06, h07, hr, hC, hD, hf, ht, hrd, hsh⟩ := id hJ
  have fin0 : tp_I (jx_up (jx_up M 0 9 0) 36 0 0) := ⟨s, o, tp_J_f 0 hJ (by simp [jx_upE]) (by simp [jx_upE]) (fun a b q1 q2 => by simp only [jx_upE, if_neg q1, if_neg q2])⟩
  rcases jx_ix a (n := 4) (by omega) with hn | ⟨k, hk, rfl⟩
  · have g3 := fun M d q => tp_isSheet_n (d := d) (q := q) (M := M) hn
    have g4 := fun M d q => tq_isSheet_n (d := d) (q := q) (M := M) hn
    have hx : ∀ q : Int32 → jx_M → Prop, q (-1) (jx_up M 0 9 0) → jx_I (d + 20) mX7_sheet [.ref 0, .int a, .int b, .int c] M q := by
      intro q hq
      simp (disch := first | assumption | omega | decide) only [jx_qI_a, jx_qV_a, jx_qL_a, jn_LL, true_or, or_true, true_and, and_true, false_or, or_false, false_and, and_false, if_true, if_false, not_true_eq_false, not_false_eq_true, jx_tab, kX7_sheet, eX7_sheet, g3, hq]
    have hm : ∀ q : Int32 → jx_M → Prop, q (-1) (jx_up (jx_up M 0 9 0) 36 0 0) → jx_I (d + 20) mX8_sheet [.ref 36, .int a, .int b, .int c] (jx_up M 0 9 0) q := by
      intro q hq
      simp (disch := first | assumption | omega | decide) only [jx_qI_a, jx_qV_a, jx_qL_a, jn_LL, true_or, or_true, true_and, and_true, false_or, or_false, false_and, and_false, if_true, if_false, not_true_eq_false, not_false_eq_true, jx_tab, kX8_sheet, eX8_sheet, g4, hq]
    exact hx _ (hm _ ⟨rfl, fin0⟩)
  · have g3 := fun M d q => tp_isSheet_y (d := d) (q := q) (M := M) hk
    have g4 := fun M d q => tq_isSheet_y (d := d) (q := q) (M := M) hk
    obtain ⟨t1, t2, t3, t4⟩ := tp_St hk
    rcases jx_ix b (n := 3) (by omega) with hn | ⟨ln, hl, rfl⟩
    · have g5 := fun M d q => tp_isLane_n (d := d) (q := q) (M := M) hn
      have g6 := fun M d q => tq_isSort_n (d := d) (q := q) (M := M) hn
      have hx : ∀ q : Int32 → jx_M → Prop, q (-2) (jx_up M 0 9 0) → jx_I (d + 20) mX7_sheet [.ref 0, .int (nI k), .int b, .int c] M q := by
        intro q hq
        simp (disch := first | assumption | omega | decide) only [jx_qI_a, jx_qV_a, jx_qL_a, jn_LL, true_or, or_true, true_and, and_true, false_or, or_false, false_and, and_false, if_true, if_false, not_true_eq_false, not_false_eq_true, jx_tab, kX7_sheet, eX7_sheet, g3, g5, hq]
      have hm : ∀ q : Int32 → jx_M → Prop, q (-2) (jx_up (jx_up M 0 9 0) 36 0 0) → jx_I (d + 20) mX8_sheet [.ref 36, .int (nI k), .int b, .int c] (jx_up M 0 9 0) q := by
        intro q hq
        simp (disch := first | assumption | omega | decide) only [jx_qI_a, jx_qV_a, jx_qL_a, jn_LL, true_or, or_true, true_and, and_true, false_or, or_false, false_and, and_false, if_true, if_false, not_true_eq_false, not_false_eq_true, jx_tab, kX8_sheet, eX8_sheet, g4, g6, hq]
      exact hx _ (hm _ ⟨rfl, fin0⟩)
    · have g5 := fun M d q => tp_isLane_y (d := d) (q := q) (M := M) hl
      have g6 := fun M d q => tq_isSort_y (d := d) (q := q) (M := M) hl
      by_cases hc0 : c < 0
      · obtain ⟨v1, v2, v3⟩ := jn_lt0 (b := 60) hc0 (by omega)
        have v4 : ¬ (60 : Int32) < c := v1
        have v5 : c ≤ 60 := Int32.not_lt.mp v4
        have hx : ∀ q : Int32 → jx_M → Prop, q (-10 - 4) (jx_up (jx_up M 0 9 0) 0 9 4) → jx_I (d + 20) mX7_sheet [.ref 0, .int (nI k), .int (nI ln), .int c] M q := by
          intro q hq
          simp (disch := first | assumption | omega | decide) only [jx_qI_a, jx_qV_a, jx_qL_a, jn_LL, true_or, or_true, true_and, and_true, false_or, or_false, false_and, and_false, if_true, if_false, not_true_eq_false, not_false_eq_true, jx_tab, kX7_sheet, eX7_sheet, g3, g5, hc0, v3, v4, v5, tp_faultAnswer, hq]
        have hm : ∀ q : Int32 → jx_M → Prop, q (-10 - 4) (jx_up (jx_up (jx_up (jx_up M 0 9 0) 0 9 4) 36 0 0) 36 0 4) → jx_I (d + 20) mX8_sheet [.ref 36, .int (nI k), .int (nI ln), .int c] (jx_up (jx_up M 0 9 0) 0 9 4) q := by
          intro q hq
          simp (disch := first | assumption | omega | decide) only [jx_qI_a, jx_qV_a, jx_qL_a, jn_LL, true_or, or_true, true_and, and_true, false_or, or_false, false_and, and_false, if_true, if_false, not_true_eq_false, not_false_eq_true, jx_tab, kX8_sheet, eX8_sheet, g4, g6, hc0, v3, v4, v5, tq_fails, hq]
        exact hx _ (hm _ ⟨rfl, s, o, tp_J_f 4 hJ (by simp [jx_upE]) (by simp [jx_upE]) (fun a b q1 q2 => by simp only [jx_upE, if_neg q1, if_neg q2])⟩)
      · obtain ⟨n, hn, rfl⟩ := nI_of hc0
        by_cases h60 : n ≤ 60
        · have hx : ∀ q : Int32 → jx_M → Prop, (∀ M1 : jx_M, M1 0 9 = 0 → M1 (28 + 2 * k) 1 = nI ln → M1 (28 + 2 * k) 2 = nI n → M1 (28 + 2 * k) 3 = 1 → (∀ j, j < 60 → M1 (28 + 2 * k + 1) j = 0) → (∀ a b, ¬ (a = 0 ∧ b = 9) → a ≠ 28 + 2 * k → a ≠ 28 + 2 * k + 1 → M1 a b = M a b) → q 1 M1) → jx_I (d + 20) mX7_sheet [.ref 0, .int (nI k), .int (nI ln), .int (nI n)] M q := by
            intro q hq
            simp (disch := first | assumption | omega | decide) only [jx_qI_a, jx_qV_a, jx_qL_a, jn_lt, jn_le, jn_eq, jn_L, jn_A, jn_N, jn_LL, jn_add, jn_mul, jn_sub, jn_cl, jn_vin, jn_shl1, jn_shr, jn_or, jn_l_or0, jn_and1, jo_ltT, jo_ltF, jo_leT, jo_leF, jo_eqT, jo_eqF, true_or, or_true, true_and, and_true, false_or, or_false, false_and, and_false, if_true, if_false, not_true_eq_false, not_false_eq_true, jx_tab, kX7_sheet, eX7_sheet, g3, g5, t4, kX4_renew, eX4_renew]
            refine tp_renew_l t1 t2 t3 60 0 _ rfl (fun M1 e1 e2 => ?_)
            simp only [jx_qV_a]
            refine hq M1 ?_ ?_ ?_ ?_ (fun j hj => by rw [e2 j hj, if_neg (by omega)]) (fun a b q1 q2 q3 => ?_)
            · rw [e1 _ _ (by omega)]; simp [jx_upE]
            · rw [e1 _ _ (by omega)]; simp [jx_upE]
            · rw [e1 _ _ (by omega)]; simp [jx_upE]
            · rw [e1 _ _ (by omega)]; simp [jx_upE]
            · rw [e1 _ _ q3]; simp only [jx_upE]; rw [if_neg (by omega), if_neg (by omega), if_neg (by omega), if_neg q1]
          have hm : ∀ (M1 : jx_M) (q : Int32 → jx_M → Prop), (∀ M2 : jx_M, M2 36 0 = 0 → M2 37 k = nI ln → M2 38 k = nI n → (∀ x, M2 39 x = if 60 * k ≤ x ∧ x < 60 * k + 60 then 0 else M1 39 x) → (∀ a b, ¬ (a = 36 ∧ b = 0) → ¬ (a = 37 ∧ b = k) → ¬ (a = 38 ∧ b = k) → a ≠ 39 → M2 a b = M1 a b) → q 1 M2) → jx_I (d + 20) mX8_sheet [.ref 36, .int (nI k), .int (nI ln), .int (nI n)] M1 q := by
            intro M1 q hq
            simp (disch := first | assumption | omega | decide) only [jx_qI_a, jx_qV_a, jx_qL_a, jn_lt, jn_le, jn_eq, jn_L, jn_A, jn_N, jn_LL, jn_add, jn_mul, jn_sub, jn_cl, jn_vin, jn_shl1, jn_shr, jn_or, jn_l_or0, jn_and1, jo_ltT, jo_ltF, jo_leT, jo_leF, jo_eqT, jo_eqF, true_or, or_true, true_and, and_true, false_or, or_false, false_and, and_false, if_true, if_false, not_true_eq_false, not_false_eq_true, jx_tab, kX8_sheet, eX8_sheet, g4, g6]
            refine tq_sheet_l hk 60 0 _ rfl (fun M2 e1 e2 => ?_)
            simp only [jx_qI_a]
            refine hq M2 ?_ ?_ ?_ (fun x => ?_) (fun a b q1 q2 q3 q4 => ?_)
            · rw [e1 _ _ (by omega)]; simp [jx_upE]
            · rw [e1 _ _ (by omega)]; simp [jx_upE]
            · rw [e1 _ _ (by omega)]; simp [jx_upE]
            · rw [e2 x, Nat.add_zero]; simp only [jx_upE]; rw [if_neg (show ¬ (39 = 38 ∧ x = k) by omega), if_neg (show ¬ (39 = 37 ∧ x = k) by omega), if_neg (show ¬ (39 = 36 ∧ x = 0) by omega)]
            · rw [e1 _ _ q4]; simp only [jx_upE]; rw [if_neg q3, if_neg q2, if_neg q1]
          refine hx _ (fun M1 a1 a2 a3 a4 a5 a6 => hm M1 _ (fun M2 b1 b2 b3 b4 b5 => ⟨rfl, s, o, tp_J_s hJ (fun j hj => ?_) ?_ (fun a b q1 q2 q3 => ?_)⟩))
          · by_cases hjk : j = k
            · subst hjk
              refine ⟨ln, n, by omega, h60, ?_, ?_, b3, Or.inr ⟨?_, b2⟩, fun i hi => ?_⟩
              · rw [b5 _ _ (by omega) (by omega) (by omega) (by omega)]; exact a2
              · rw [b5 _ _ (by omega) (by omega) (by omega) (by omega)]; exact a3
              · rw [b5 _ _ (by omega) (by omega) (by omega) (by omega)]; exact a4
              · rw [b4, if_pos (by omega), b5 _ _ (by omega) (by omega) (by omega) (by omega), a5 i hi]
            · obtain ⟨lane', len', hs'⟩ := hsh j hj
              exact ⟨lane', len', tp_s1_f2 hs' (fun b => by rw [b5 _ _ (by omega) (by omega) (by omega) (by omega), a6 _ _ (by omega) (by omega) (by omega)]) (fun b => by rw [b5 _ _ (by omega) (by omega) (by omega) (by omega), a6 _ _ (by omega) (by omega) (by omega)]) (by rw [b5 _ _ (by omega) (by omega) (by omega) (by omega), a6 _ _ (by omega) (by omega) (by omega)]) (by rw [b5 _ _ (by omega) (by omega) (by omega) (by omega), a6 _ _ (by omega) (by omega) (by omega)]) (fun i hi => by rw [b4, if_neg (by omega), a6 _ _ (by omega) (by omega) (by omega)])⟩
          · rw [b1, b5 _ _ (by omega) (by omega) (by omega) (by omega), a1]
          · rw [b5 _ _ (by omega) (by omega) (by omega) (by omega), a6 _ _ (by omega) (by omega) (by omega)]
        · have hx : ∀ q : Int32 → jx_M → Prop, q (-2) (jx_up M 0 9 0) → jx_I (d + 20) mX7_sheet [.ref 0, .int (nI k), .int (nI ln), .int (nI n)] M q := by
            intro q hq
            simp (disch := first | assumption | omega | decide) only [jx_qI_a, jx_qV_a, jx_qL_a, jn_lt, jn_le, jn_eq, jn_L, jn_A, jn_N, jn_LL, jn_add, jn_mul, jn_sub, jn_cl, jn_vin, jn_shl1, jn_shr, jn_or, jn_l_or0, jn_and1, jo_ltT, jo_ltF, jo_leT, jo_leF, jo_eqT, jo_eqF, true_or, or_true, true_and, and_true, false_or, or_false, false_and, and_false, if_true, if_false, not_true_eq_false, not_false_eq_true, jx_tab, kX7_sheet, eX7_sheet, g3, g5, hq]
          have hm : ∀ q : Int32 → jx_M → Prop, q (-2) (jx_up (jx_up M 0 9 0) 36 0 0) → jx_I (d + 20) mX8_sheet [.ref 36, .int (nI k), .int (nI ln), .int (nI n)] (jx_up M 0 9 0) q := by
            intro q hq
            simp (disch := first | assumption | omega | decide) only [jx_qI_a, jx_qV_a, jx_qL_a, jn_lt, jn_le, jn_eq, jn_L, jn_A, jn_N, jn_LL, jn_add, jn_mul, jn_sub, jn_cl, jn_vin, jn_shl1, jn_shr, jn_or, jn_l_or0, jn_and1, jo_ltT, jo_ltF, jo_leT, jo_leF, jo_eqT, jo_eqF, true_or, or_true, true_and, and_true, false_or, or_false, false_and, and_false, if_true, if_false, not_true_eq_false, not_false_eq_true, jx_tab, kX8_sheet, eX8_sheet, g4, g6, hq]
          exact hx _ (hm _ ⟨rfl, fin0⟩)
end TPO5
