/-! sheets -/
theorem tp_St {k : Nat} (h : k < 4) : jx_cl (28 + 2 * k) = 4 ∧ jx_cl (28 + 2 * k + 1) = 9 ∧ jx_sz (28 + 2 * k + 1) = 60 ∧ jx_sp (nI k) = 28 + 2 * k := by
  refine ⟨?_, ?_, ?_, ?_⟩
  · rcases (show k = 0 ∨ k = 1 ∨ k = 2 ∨ k = 3 by omega) with rfl | rfl | rfl | rfl <;> decide +kernel
  · rcases (show k = 0 ∨ k = 1 ∨ k = 2 ∨ k = 3 by omega) with rfl | rfl | rfl | rfl <;> decide +kernel
  · rcases (show k = 0 ∨ k = 1 ∨ k = 2 ∨ k = 3 by omega) with rfl | rfl | rfl | rfl <;> decide +kernel
  · rw [jx_sp, jn_cl (by omega)]
/-- ints that are below a natural -/
theorem jn_le_of {x : Int32} {a b : Nat} (h : nI (a + 1) ≤ x) (hab : b ≤ a) (ha : a + 1 < 2147483648) : ¬ x ≤ nI b ∧ nI b < x ∧ ¬ x < 0 := by
  rw [fa_le, nI_toInt ha] at h
  refine ⟨?_, ?_, ?_⟩
  · rw [fa_le, nI_toInt (by omega)]; omega
  · rw [fa_lt, nI_toInt (by omega)]; omega
  · rw [fa_lt]; show ¬ x.toInt < 0; omega
theorem jn_lt0 {x : Int32} {b : Nat} (h : x < 0) (hb : b < 2147483648) : ¬ nI b < x ∧ ¬ nI b ≤ x ∧ ¬ 0 ≤ x := by
  have h' : x.toInt < 0 := (fa_lt x 0).mp h
  refine ⟨?_, ?_, ?_⟩
  · rw [fa_lt, nI_toInt hb]; omega
  · rw [fa_le, nI_toInt hb]; omega
  · rw [fa_le]; show ¬ 0 ≤ x.toInt; omega
theorem tp_ag {M : jx_M} {k lane len ln : Nat} (hs : tp_s1 M k lane len) (hk : k < 4) (hln : ln < 3) (x n : Int32) : ∃ e : Nat, e ≤ 4 ∧ (e = 0 → lane = ln ∧ M (28 + 2 * k) 3 = 1 ∧ ∃ a b : Nat, x = nI a ∧ n = nI b ∧ a + b ≤ len) ∧
    (∀ (d : Nat) (q : Int32 → jx_M → Prop) (M' : jx_M), (∀ b, M' (28 + 2 * k) b = M (28 + 2 * k) b) → (jx_I (d + 1) mX4_faultOfCells [.ref (28 + 2 * k), .int (nI ln), .int x, .int n] M' q ↔ q (nI e) M')) ∧
    (∀ (d : Nat) (q : Int32 → jx_M → Prop) (M' : jx_M), M' 37 k = M 37 k → M' 38 k = M 38 k → (jx_I d mX8_against [.ref 36, .int (nI k), .int (nI ln), .int x, .int n] M' q ↔ q (nI e) M')) := by
  obtain ⟨h1, h2, h3, h4, h5, h6, h7⟩ := hs
  obtain ⟨t1, t2, t3, t4⟩ := tp_St hk
  have n1 : (1 : Int32) = nI 1 := fa_lit 1
  have n2 : (2 : Int32) = nI 2 := fa_lit 2
  have n3 : (3 : Int32) = nI 3 := fa_lit 3
  have n4 : (4 : Int32) = nI 4 := fa_lit 4
  have n0 : (0 : Int32) = nI 0 := fa_lit 0
  rcases h6 with ⟨a1, a2⟩ | ⟨a1, a2⟩
  · refine ⟨1, by decide, fun z => absurd z (by decide), fun d q M' e => ?_, fun d q M' e1 e2 => ?_⟩
    · rw [← n1]
      simp (disch := first | assumption | omega | decide) only [jx_qI_a, jx_qV_a, jx_qL_a, jn_lt, jn_le, jn_eq, jn_L, jn_A, jn_N, jn_LL, jn_add, jn_mul, jn_sub, jn_cl, jn_vin, jn_shl1, jn_shr, jn_or, jn_l_or0, jn_and1, jo_ltT, jo_ltF, jo_leT, jo_leF, jo_eqT, jo_eqF, true_or, or_true, true_and, and_true, false_or, or_false, false_and, and_false, if_true, if_false, not_true_eq_false, not_false_eq_true, jx_tab, kX4_faultOfCells, eX4_faultOfCells, e, a1, h3]
    · rw [← n1]
      simp (disch := first | assumption | omega | decide) only [jx_qI_a, jx_qV_a, jx_qL_a, jn_lt, jn_le, jn_eq, jn_L, jn_A, jn_N, jn_LL, jn_add, jn_mul, jn_sub, jn_cl, jn_vin, jn_shl1, jn_shr, jn_or, jn_l_or0, jn_and1, jo_ltT, jo_ltF, jo_leT, jo_leF, jo_eqT, jo_eqF, true_or, or_true, true_and, and_true, false_or, or_false, false_and, and_false, if_true, if_false, not_true_eq_false, not_false_eq_true, jx_tab, kX8_against, eX8_against, e1, a2]
  · by_cases hl : lane = ln
    · by_cases hn : n < 0
      · refine ⟨4, by decide, fun z => absurd z (by decide), fun d q M' e => ?_, fun d q M' e1 e2 => ?_⟩
        · rw [← n4]
          simp (disch := first | assumption | omega | decide) only [jx_qI_a, jx_qV_a, jx_qL_a, jn_lt, jn_le, jn_eq, jn_L, jn_A, jn_N, jn_LL, jn_add, jn_mul, jn_sub, jn_cl, jn_vin, jn_shl1, jn_shr, jn_or, jn_l_or0, jn_and1, jo_ltT, jo_ltF, jo_leT, jo_leF, jo_eqT, jo_eqF, true_or, or_true, true_and, and_true, false_or, or_false, false_and, and_false, if_true, if_false, not_true_eq_false, not_false_eq_true, jx_tab, kX4_faultOfCells, eX4_faultOfCells, e, a1, h3, hn, jx_nge]
        · rw [← n4]
          simp (disch := first | assumption | omega | decide) only [jx_qI_a, jx_qV_a, jx_qL_a, jn_lt, jn_le, jn_eq, jn_L, jn_A, jn_N, jn_LL, jn_add, jn_mul, jn_sub, jn_cl, jn_vin, jn_shl1, jn_shr, jn_or, jn_l_or0, jn_and1, jo_ltT, jo_ltF, jo_leT, jo_leF, jo_eqT, jo_eqF, true_or, or_true, true_and, and_true, false_or, or_false, false_and, and_false, if_true, if_false, not_true_eq_false, not_false_eq_true, jx_tab, kX8_against, eX8_against, e1, a2, hn, jx_nge]
      · have hn' : 0 ≤ n := Int32.not_lt.mp hn
        rcases jx_ix n (n := len + 1) (by omega) with (q0 | q0) | ⟨b, hb, rfl⟩
        · exact absurd q0 hn
        · obtain ⟨u1, u2, u3⟩ := jn_le_of q0 (Nat.le_refl len) (by omega)
          refine ⟨3, by decide, fun z => absurd z (by decide), fun d q M' e => ?_, fun d q M' e1 e2 => ?_⟩
          · rw [← n3]
            simp (disch := first | assumption | omega | decide) only [jx_qI_a, jx_qV_a, jx_qL_a, jn_lt, jn_le, jn_eq, jn_L, jn_A, jn_N, jn_LL, jn_add, jn_mul, jn_sub, jn_cl, jn_vin, jn_shl1, jn_shr, jn_or, jn_l_or0, jn_and1, jo_ltT, jo_ltF, jo_leT, jo_leF, jo_eqT, jo_eqF, true_or, or_true, true_and, and_true, false_or, or_false, false_and, and_false, if_true, if_false, not_true_eq_false, not_false_eq_true, jx_tab, kX4_faultOfCells, eX4_faultOfCells, kX4_hasCells, eX4_hasCells, e, a1, h3, h4, hn, hn', u1, u2]
          · rw [← n3]
            rcases jx_ix x (n := len + 1) (by omega) with (r0 | r0) | ⟨a, ha, rfl⟩
            · simp (disch := first | assumption | omega | decide) only [jx_qI_a, jx_qV_a, jx_qL_a, jn_lt, jn_le, jn_eq, jn_L, jn_A, jn_N, jn_LL, jn_add, jn_mul, jn_sub, jn_cl, jn_vin, jn_shl1, jn_shr, jn_or, jn_l_or0, jn_and1, jo_ltT, jo_ltF, jo_leT, jo_leF, jo_eqT, jo_eqF, true_or, or_true, true_and, and_true, false_or, or_false, false_and, and_false, if_true, if_false, not_true_eq_false, not_false_eq_true, jx_tab, kX8_against, eX8_against, e1, e2, h5, a2, hn', r0]
            · obtain ⟨v1, v2, v3⟩ := jn_le_of r0 (Nat.le_refl len) (by omega)
              simp (disch := first | assumption | omega | decide) only [jx_qI_a, jx_qV_a, jx_qL_a, jn_lt, jn_le, jn_eq, jn_L, jn_A, jn_N, jn_LL, jn_add, jn_mul, jn_sub, jn_cl, jn_vin, jn_shl1, jn_shr, jn_or, jn_l_or0, jn_and1, jo_ltT, jo_ltF, jo_leT, jo_leF, jo_eqT, jo_eqF, true_or, or_true, true_and, and_true, false_or, or_false, false_and, and_false, if_true, if_false, not_true_eq_false, not_false_eq_true, jx_tab, kX8_against, eX8_against, e1, e2, h5, a2, hn', v1, v2, v3]
            · obtain ⟨w1, w2, w3⟩ := jn_le_of (b := len - a) q0 (by omega) (by omega)
              simp (disch := first | assumption | omega | decide) only [jx_qI_a, jx_qV_a, jx_qL_a, jn_lt, jn_le, jn_eq, jn_L, jn_A, jn_N, jn_LL, jn_add, jn_mul, jn_sub, jn_cl, jn_vin, jn_shl1, jn_shr, jn_or, jn_l_or0, jn_and1, jo_ltT, jo_ltF, jo_leT, jo_leF, jo_eqT, jo_eqF, true_or, or_true, true_and, and_true, false_or, or_false, false_and, and_false, if_true, if_false, not_true_eq_false, not_false_eq_true, jx_tab, kX8_against, eX8_against, e1, e2, h5, a2, hn', w1, w2, w3]
        · rcases jx_ix x (n := len + 1) (by omega) with (r0 | r0) | ⟨a, ha, rfl⟩
          · obtain ⟨v1, v2, v3⟩ := jn_lt0 (b := len - b) r0 (by omega)
            refine ⟨3, by decide, fun z => absurd z (by decide), fun d q M' e => ?_, fun d q M' e1 e2 => ?_⟩
            · rw [← n3]
              simp (disch := first | assumption | omega | decide) only [jx_qI_a, jx_qV_a, jx_qL_a, jn_lt, jn_le, jn_eq, jn_L, jn_A, jn_N, jn_LL, jn_add, jn_mul, jn_sub, jn_cl, jn_vin, jn_shl1, jn_shr, jn_or, jn_l_or0, jn_and1, jo_ltT, jo_ltF, jo_leT, jo_leF, jo_eqT, jo_eqF, true_or, or_true, true_and, and_true, false_or, or_false, false_and, and_false, if_true, if_false, not_true_eq_false, not_false_eq_true, jx_tab, kX4_faultOfCells, eX4_faultOfCells, kX4_hasCells, eX4_hasCells, e, a1, h3, h4, r0, v3]
            · rw [← n3]
              simp (disch := first | assumption | omega | decide) only [jx_qI_a, jx_qV_a, jx_qL_a, jn_lt, jn_le, jn_eq, jn_L, jn_A, jn_N, jn_LL, jn_add, jn_mul, jn_sub, jn_cl, jn_vin, jn_shl1, jn_shr, jn_or, jn_l_or0, jn_and1, jo_ltT, jo_ltF, jo_leT, jo_leF, jo_eqT, jo_eqF, true_or, or_true, true_and, and_true, false_or, or_false, false_and, and_false, if_true, if_false, not_true_eq_false, not_false_eq_true, jx_tab, kX8_against, eX8_against, e1, e2, h5, a2, r0, v3]
          · obtain ⟨v1, v2, v3⟩ := jn_le_of (b := len - b) r0 (by omega) (by omega)
            obtain ⟨w1, w2, w3⟩ := jn_le_of r0 (Nat.le_refl len) (by omega)
            have w4 : 0 ≤ x := Int32.not_lt.mp w3
            refine ⟨3, by decide, fun z => absurd z (by decide), fun d q M' e => ?_, fun d q M' e1 e2 => ?_⟩
            · rw [← n3]
              simp (disch := first | assumption | omega | decide) only [jx_qI_a, jx_qV_a, jx_qL_a, jn_lt, jn_le, jn_eq, jn_L, jn_A, jn_N, jn_LL, jn_add, jn_mul, jn_sub, jn_cl, jn_vin, jn_shl1, jn_shr, jn_or, jn_l_or0, jn_and1, jo_ltT, jo_ltF, jo_leT, jo_leF, jo_eqT, jo_eqF, true_or, or_true, true_and, and_true, false_or, or_false, false_and, and_false, if_true, if_false, not_true_eq_false, not_false_eq_true, jx_tab, kX4_faultOfCells, eX4_faultOfCells, kX4_hasCells, eX4_hasCells, e, a1, h3, h4, v1, v2, w3, w4]
            · rw [← n3]
              simp (disch := first | assumption | omega | decide) only [jx_qI_a, jx_qV_a, jx_qL_a, jn_lt, jn_le, jn_eq, jn_L, jn_A, jn_N, jn_LL, jn_add, jn_mul, jn_sub, jn_cl, jn_vin, jn_shl1, jn_shr, jn_or, jn_l_or0, jn_and1, jo_ltT, jo_ltF, jo_leT, jo_leF, jo_eqT, jo_eqF, true_or, or_true, true_and, and_true, false_or, or_false, false_and, and_false, if_true, if_false, not_true_eq_false, not_false_eq_true, jx_tab, kX8_against, eX8_against, e1, e2, h5, a2, w1, w2, w3, w4]
          · by_cases hab : a + b ≤ len
            · refine ⟨0, by decide, fun _ => ⟨hl, a1, a, b, rfl, rfl, hab⟩, fun d q M' e => ?_, fun d q M' e1 e2 => ?_⟩
              · rw [← n0]
                simp (disch := first | assumption | omega | decide) only [jx_qI_a, jx_qV_a, jx_qL_a, jn_lt, jn_le, jn_eq, jn_L, jn_A, jn_N, jn_LL, jn_add, jn_mul, jn_sub, jn_cl, jn_vin, jn_shl1, jn_shr, jn_or, jn_l_or0, jn_and1, jo_ltT, jo_ltF, jo_leT, jo_leF, jo_eqT, jo_eqF, true_or, or_true, true_and, and_true, false_or, or_false, false_and, and_false, if_true, if_false, not_true_eq_false, not_false_eq_true, jx_tab, kX4_faultOfCells, eX4_faultOfCells, kX4_hasCells, eX4_hasCells, e, a1, h3, h4]
              · rw [← n0]
                simp (disch := first | assumption | omega | decide) only [jx_qI_a, jx_qV_a, jx_qL_a, jn_lt, jn_le, jn_eq, jn_L, jn_A, jn_N, jn_LL, jn_add, jn_mul, jn_sub, jn_cl, jn_vin, jn_shl1, jn_shr, jn_or, jn_l_or0, jn_and1, jo_ltT, jo_ltF, jo_leT, jo_leF, jo_eqT, jo_eqF, true_or, or_true, true_and, and_true, false_or, or_false, false_and, and_false, if_true, if_false, not_true_eq_false, not_false_eq_true, jx_tab, kX8_against, eX8_against, e1, e2, h5, a2]
            · refine ⟨3, by decide, fun z => absurd z (by decide), fun d q M' e => ?_, fun d q M' e1 e2 => ?_⟩
              · rw [← n3]
                simp (disch := first | assumption | omega | decide) only [jx_qI_a, jx_qV_a, jx_qL_a, jn_lt, jn_le, jn_eq, jn_L, jn_A, jn_N, jn_LL, jn_add, jn_mul, jn_sub, jn_cl, jn_vin, jn_shl1, jn_shr, jn_or, jn_l_or0, jn_and1, jo_ltT, jo_ltF, jo_leT, jo_leF, jo_eqT, jo_eqF, true_or, or_true, true_and, and_true, false_or, or_false, false_and, and_false, if_true, if_false, not_true_eq_false, not_false_eq_true, jx_tab, kX4_faultOfCells, eX4_faultOfCells, kX4_hasCells, eX4_hasCells, e, a1, h3, h4]
              · rw [← n3]
                simp (disch := first | assumption | omega | decide) only [jx_qI_a, jx_qV_a, jx_qL_a, jn_lt, jn_le, jn_eq, jn_L, jn_A, jn_N, jn_LL, jn_add, jn_mul, jn_sub, jn_cl, jn_vin, jn_shl1, jn_shr, jn_or, jn_l_or0, jn_and1, jo_ltT, jo_ltF, jo_leT, jo_leF, jo_eqT, jo_eqF, true_or, or_true, true_and, and_true, false_or, or_false, false_and, and_false, if_true, if_false, not_true_eq_false, not_false_eq_true, jx_tab, kX8_against, eX8_against, e1, e2, h5, a2]
    · refine ⟨2, by decide, fun z => absurd z (by decide), fun d q M' e => ?_, fun d q M' e1 e2 => ?_⟩
      · rw [← n2]
        simp (disch := first | assumption | omega | decide) only [jx_qI_a, jx_qV_a, jx_qL_a, jn_lt, jn_le, jn_eq, jn_L, jn_A, jn_N, jn_LL, jn_add, jn_mul, jn_sub, jn_cl, jn_vin, jn_shl1, jn_shr, jn_or, jn_l_or0, jn_and1, jo_ltT, jo_ltF, jo_leT, jo_leF, jo_eqT, jo_eqF, true_or, or_true, true_and, and_true, false_or, or_false, false_and, and_false, if_true, if_false, not_true_eq_false, not_false_eq_true, jx_tab, kX4_faultOfCells, eX4_faultOfCells, e, a1, h3]
      · rw [← n2]
        simp (disch := first | assumption | omega | decide) only [jx_qI_a, jx_qV_a, jx_qL_a, jn_lt, jn_le, jn_eq, jn_L, jn_A, jn_N, jn_LL, jn_add, jn_mul, jn_sub, jn_cl, jn_vin, jn_shl1, jn_shr, jn_or, jn_l_or0, jn_and1, jo_ltT, jo_ltF, jo_leT, jo_leF, jo_eqT, jo_eqF, true_or, or_true, true_and, and_true, false_or, or_false, false_and, and_false, if_true, if_false, not_true_eq_false, not_false_eq_true, jx_tab, kX8_against, eX8_against, e1, a2]
