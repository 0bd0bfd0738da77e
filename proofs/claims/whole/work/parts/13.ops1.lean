/-! the plain calls: both answer alike, and the relation holds again -/
section TPO1
variable {d : Nat} {M : jx_M}
theorem op_ofPerson (h : tp_I M) (a b : Int32) : jx_I (d + 20) mX7_ofPerson [.ref 0, .int a, .int b] M (fun r M1 => jx_I (d + 20) mX8_ofPerson [.ref 36, .int a, .int b] M1 (fun r2 M2 => r = r2 ∧ tp_I M2)) := by
  have hI := h
  obtain ⟨s, o, ho, h06, h07, hr, hC, hD, hf, ht, hrd, hsh⟩ := h
  have e6 : jx_rv (M 0 6) = .ref o := by rw [h06]; exact tp_rvn (by rcases ho with rfl | rfl <;> decide)
  obtain ⟨o0, o1, o2, o3, o4, o5, z1, z2, z3, z4, z5⟩ := tp_Ot ho
  obtain ⟨r1, r2, r3, r4, r5, r6⟩ := id hr
  rcases jx_ix a (n := s 0 0) (by omega) with hn | ⟨p, hp, rfl⟩
  · have g1 := fun d q => tp_hasPerson_n (d := d) (q := q) ho hr hC hn
    have g2 := fun d q => tq_isPerson_n (d := d) (q := q) hr hD hn
    have hx : ∀ q : Int32 → jx_M → Prop, q (-1) M → jx_I (d + 20) mX7_ofPerson [.ref 0, .int a, .int b] M q := by
      intro q hq
      simp (disch := first | assumption | omega | decide) only [jx_qI_a, jx_qV_a, jx_qL_a, jn_LL, true_or, or_true, true_and, and_true, false_or, or_false, false_and, and_false, if_true, if_false, not_true_eq_false, not_false_eq_true, jx_tab, kX7_ofPerson, eX7_ofPerson, e6, g1, hq]
    have hm : ∀ q : Int32 → jx_M → Prop, q (-1) M → jx_I (d + 20) mX8_ofPerson [.ref 36, .int a, .int b] M q := by
      intro q hq
      simp (disch := first | assumption | omega | decide) only [jx_qI_a, jx_qV_a, jx_qL_a, jn_LL, true_or, or_true, true_and, and_true, false_or, or_false, false_and, and_false, if_true, if_false, not_true_eq_false, not_false_eq_true, jx_tab, kX8_ofPerson, eX8_ofPerson, g2, hq]
    exact hx _ (hm _ ⟨rfl, hI⟩)
  · have g1 := fun d q => tp_hasPerson_y (d := d) (q := q) ho hr hC hp
    have g2 := fun d q => tq_isPerson_y (d := d) (q := q) hr hD hp
    have g3 := fun d q => tp_clapsFor (d := d) (q := q) ho hr hC (show p < 100 by omega)
    have g4 := fun d q => tq_clapsOf (d := d) (q := q) hr hD (show p < 100 by omega)
    obtain ⟨k1, k2⟩ := hC.2.2.2.2.1 p hp
    obtain ⟨k3, k4⟩ := hD.2.2.2.2.1 p hp
    by_cases b0 : b = 0
    · subst b0
      simp (disch := first | assumption | omega | decide) only [jx_qI_a, jx_qV_a, jx_qL_a, jn_lt, jn_le, jn_eq, jn_L, jn_A, jn_N, jn_LL, jn_add, jn_mul, jn_sub, jn_cl, jn_vin, jn_shl1, jn_shr, jn_or, jn_l_or0, jn_and1, jo_ltT, jo_ltF, jo_leT, jo_leF, jo_eqT, jo_eqF, true_or, or_true, true_and, and_true, false_or, or_false, false_and, and_false, if_true, if_false, not_true_eq_false, not_false_eq_true, jx_tab, kX7_ofPerson, eX7_ofPerson, e6, g1, kX8_ofPerson, eX8_ofPerson, g2, hI, k1, k2, k3, k4, z1, z2]
    · by_cases b1 : b = 1
      · subst b1
        simp (disch := first | assumption | omega | decide) only [jx_qI_a, jx_qV_a, jx_qL_a, jn_lt, jn_le, jn_eq, jn_L, jn_A, jn_N, jn_LL, jn_add, jn_mul, jn_sub, jn_cl, jn_vin, jn_shl1, jn_shr, jn_or, jn_l_or0, jn_and1, jo_ltT, jo_ltF, jo_leT, jo_leF, jo_eqT, jo_eqF, true_or, or_true, true_and, and_true, false_or, or_false, false_and, and_false, if_true, if_false, not_true_eq_false, not_false_eq_true, jx_tab, kX7_ofPerson, eX7_ofPerson, e6, g1, kX8_ofPerson, eX8_ofPerson, g2, hI, k1, k2, k3, k4, z1, z2]
      · by_cases b2 : b = 2
        · subst b2
          simp (disch := first | assumption | omega | decide) only [jx_qI_a, jx_qV_a, jx_qL_a, jn_lt, jn_le, jn_eq, jn_L, jn_A, jn_N, jn_LL, jn_add, jn_mul, jn_sub, jn_cl, jn_vin, jn_shl1, jn_shr, jn_or, jn_l_or0, jn_and1, jo_ltT, jo_ltF, jo_leT, jo_leF, jo_eqT, jo_eqF, true_or, or_true, true_and, and_true, false_or, or_false, false_and, and_false, if_true, if_false, not_true_eq_false, not_false_eq_true, jx_tab, kX7_ofPerson, eX7_ofPerson, e6, g1, g3, g4, kX8_ofPerson, eX8_ofPerson, g2, hI]
        · simp (disch := first | assumption | omega | decide) only [jx_qI_a, jx_qV_a, jx_qL_a, jn_lt, jn_le, jn_eq, jn_L, jn_A, jn_N, jn_LL, jn_add, jn_mul, jn_sub, jn_cl, jn_vin, jn_shl1, jn_shr, jn_or, jn_l_or0, jn_and1, jo_ltT, jo_ltF, jo_leT, jo_leF, jo_eqT, jo_eqF, true_or, or_true, true_and, and_true, false_or, or_false, false_and, and_false, if_true, if_false, not_true_eq_false, not_false_eq_true, jx_tab, kX7_ofPerson, eX7_ofPerson, e6, g1, kX8_ofPerson, eX8_ofPerson, g2, hI, b0, b1, b2]
theorem op_ofClap (h : tp_I M) (a b : Int32) : jx_I (d + 20) mX7_ofClap [.ref 0, .int a, .int b] M (fun r M1 => jx_I (d + 20) mX8_ofClap [.ref 36, .int a, .int b] M1 (fun r2 M2 => r = r2 ∧ tp_I M2)) := by
  have hI := h
  obtain ⟨s, o, ho, h06, h07, hr, hC, hD, hf, ht, hrd, hsh⟩ := h
  have e6 : jx_rv (M 0 6) = .ref o := by rw [h06]; exact tp_rvn (by rcases ho with rfl | rfl <;> decide)
  obtain ⟨o0, o1, o2, o3, o4, o5, z1, z2, z3, z4, z5⟩ := tp_Ot ho
  obtain ⟨r1, r2, r3, r4, r5, r6⟩ := id hr
  rcases jx_ix a (n := s 0 1) (by omega) with hn | ⟨p, hp, rfl⟩
  · have g1 := fun d q => tp_hasClap_n (d := d) (q := q) ho hr hC hn
    have g2 := fun d q => tq_isClap_n (d := d) (q := q) hr hD hn
    simp (disch := first | assumption | omega | decide) only [jx_qI_a, jx_qV_a, jx_qL_a, jn_LL, true_or, or_true, true_and, and_true, false_or, or_false, false_and, and_false, if_true, if_false, not_true_eq_false, not_false_eq_true, jx_tab, kX7_ofClap, eX7_ofClap, e6, g1, kX8_ofClap, eX8_ofClap, g2, hI]
  · have g1 := fun d q => tp_hasClap_y (d := d) (q := q) ho hr hC hp
    have g2 := fun d q => tq_isClap_y (d := d) (q := q) hr hD hp
    obtain ⟨k1, k2, k5⟩ := hC.2.2.2.2.2 p hp
    obtain ⟨k3, k4, k6⟩ := hD.2.2.2.2.2 p hp
    by_cases b0 : b = 0
    · subst b0
      simp (disch := first | assumption | omega | decide) only [jx_qI_a, jx_qV_a, jx_qL_a, jn_lt, jn_le, jn_eq, jn_L, jn_A, jn_N, jn_LL, jn_add, jn_mul, jn_sub, jn_cl, jn_vin, jn_shl1, jn_shr, jn_or, jn_l_or0, jn_and1, jo_ltT, jo_ltF, jo_leT, jo_leF, jo_eqT, jo_eqF, true_or, or_true, true_and, and_true, false_or, or_false, false_and, and_false, if_true, if_false, not_true_eq_false, not_false_eq_true, jx_tab, kX7_ofClap, eX7_ofClap, e6, g1, kX8_ofClap, eX8_ofClap, g2, hI, k1, k2, k3, k4, k5, k6, z3, z4, z5]
    · by_cases b1 : b = 1
      · subst b1
        simp (disch := first | assumption | omega | decide) only [jx_qI_a, jx_qV_a, jx_qL_a, jn_lt, jn_le, jn_eq, jn_L, jn_A, jn_N, jn_LL, jn_add, jn_mul, jn_sub, jn_cl, jn_vin, jn_shl1, jn_shr, jn_or, jn_l_or0, jn_and1, jo_ltT, jo_ltF, jo_leT, jo_leF, jo_eqT, jo_eqF, true_or, or_true, true_and, and_true, false_or, or_false, false_and, and_false, if_true, if_false, not_true_eq_false, not_false_eq_true, jx_tab, kX7_ofClap, eX7_ofClap, e6, g1, kX8_ofClap, eX8_ofClap, g2, hI, k1, k2, k3, k4, k5, k6, z3, z4, z5]
      · by_cases b2 : b = 2
        · subst b2
          simp (disch := first | assumption | omega | decide) only [jx_qI_a, jx_qV_a, jx_qL_a, jn_lt, jn_le, jn_eq, jn_L, jn_A, jn_N, jn_LL, jn_add, jn_mul, jn_sub, jn_cl, jn_vin, jn_shl1, jn_shr, jn_or, jn_l_or0, jn_and1, jo_ltT, jo_ltF, jo_leT, jo_leF, jo_eqT, jo_eqF, true_or, or_true, true_and, and_true, false_or, or_false, false_and, and_false, if_true, if_false, not_true_eq_false, not_false_eq_true, jx_tab, kX7_ofClap, eX7_ofClap, e6, g1, kX8_ofClap, eX8_ofClap, g2, hI, k1, k2, k3, k4, k5, k6, z3, z4, z5]
        · simp (disch := first | assumption | omega | decide) only [jx_qI_a, jx_qV_a, jx_qL_a, jn_lt, jn_le, jn_eq, jn_L, jn_A, jn_N, jn_LL, jn_add, jn_mul, jn_sub, jn_cl, jn_vin, jn_shl1, jn_shr, jn_or, jn_l_or0, jn_and1, jo_ltT, jo_ltF, jo_leT, jo_leF, jo_eqT, jo_eqF, true_or, or_true, true_and, and_true, false_or, or_false, false_and, and_false, if_true, if_false, not_true_eq_false, not_false_eq_true, jx_tab, kX7_ofClap, eX7_ofClap, e6, g1, kX8_ofClap, eX8_ofClap, g2, hI, b0, b1, b2]
theorem op_loud (h : tp_I M) (a b : Int32) : jx_I (d + 20) mX7_loud [.ref 0, .int a, .int b] M (fun r M1 => jx_I (d + 20) mX8_loud [.ref 36, .int a, .int b] M1 (fun r2 M2 => r = r2 ∧ tp_I M2)) := by
  have hI := h
  obtain ⟨s, o, ho, h06, h07, hr, hC, hD, hf, ht, hrd, hsh⟩ := h
  have e6 : jx_rv (M 0 6) = .ref o := by rw [h06]; exact tp_rvn (by rcases ho with rfl | rfl <;> decide)
  obtain ⟨o0, o1, o2, o3, o4, o5, z1, z2, z3, z4, z5⟩ := tp_Ot ho
  obtain ⟨r1, r2, r3, r4, r5, r6⟩ := id hr
  rcases jx_ix a (n := s 0 1) (by omega) with hn | ⟨p, hp, rfl⟩
  · have g1 := fun d q => tp_hasClap_n (d := d) (q := q) ho hr hC hn
    have g2 := fun d q => tq_isClap_n (d := d) (q := q) hr hD hn
    simp (disch := first | assumption | omega | decide) only [jx_qI_a, jx_qV_a, jx_qL_a, jn_LL, true_or, or_true, true_and, and_true, false_or, or_false, false_and, and_false, if_true, if_false, not_true_eq_false, not_false_eq_true, jx_tab, kX7_loud, eX7_loud, e6, g1, kX8_loud, eX8_loud, g2, hI]
  · have g1 := fun d q => tp_hasClap_y (d := d) (q := q) ho hr hC hp
    have g2 := fun d q => tq_isClap_y (d := d) (q := q) hr hD hp
    rcases jx_ix b (n := 10) (by omega) with hn | ⟨m, hm, rfl⟩
    · have g3 := fun M d q => tp_isMonth_n (d := d) (q := q) (M := M) hn
      have g4 := fun M d q => tq_isMonths_n (d := d) (q := q) (M := M) hn
      simp (disch := first | assumption | omega | decide) only [jx_qI_a, jx_qV_a, jx_qL_a, jn_LL, true_or, or_true, true_and, and_true, false_or, or_false, false_and, and_false, if_true, if_false, not_true_eq_false, not_false_eq_true, jx_tab, kX7_loud, eX7_loud, e6, g1, g3, g4, kX8_loud, eX8_loud, g2, hI]
    · have g3 := fun M d q => tp_isMonth_y (d := d) (q := q) (M := M) hm
      have g4 := fun M d q => tq_isMonths_y (d := d) (q := q) (M := M) hm
      have g5 := fun d q => tp_loudness (d := d) (q := q) ho hr hC hp (show m < 100 by omega)
      have g6 := fun d q => tq_loudOf (d := d) (q := q) hr hD hp (show m < 100 by omega)
      simp (disch := first | assumption | omega | decide) only [jx_qI_a, jx_qV_a, jx_qL_a, jn_LL, true_or, or_true, true_and, and_true, false_or, or_false, false_and, and_false, if_true, if_false, not_true_eq_false, not_false_eq_true, jx_tab, kX7_loud, eX7_loud, e6, g1, g3, g4, g5, g6, kX8_loud, eX8_loud, g2, hI]
theorem op_trace (h : tp_I M) : jx_I (d + 20) mX7_trace [.ref 0] M (fun r M1 => jx_I (d + 20) mX8_trace [.ref 36] M1 (fun r2 M2 => r = r2 ∧ tp_I M2)) := by
  have hI := h
  obtain ⟨s, o, ho, h06, h07, hr, hC, hD, hf, ht, hrd, hsh⟩ := h
  simp (disch := first | assumption | omega | decide) only [jx_qI_a, jx_qV_a, jx_qL_a, jn_LL, true_or, or_true, true_and, and_true, false_or, or_false, false_and, and_false, if_true, if_false, not_true_eq_false, not_false_eq_true, jx_tab, kX7_trace, eX7_trace, kX8_trace, eX8_trace, ht, hI]
theorem op_fault (h : tp_I M) : jx_I (d + 20) mX7_fault [.ref 0] M (fun r M1 => jx_I (d + 20) mX8_fault [.ref 36] M1 (fun r2 M2 => r = r2 ∧ tp_I M2)) := by
  have hI := h
  obtain ⟨s, o, ho, h06, h07, hr, hC, hD, hf, ht, hrd, hsh⟩ := h
  simp (disch := first | assumption | omega | decide) only [jx_qI_a, jx_qV_a, jx_qL_a, jn_LL, true_or, or_true, true_and, and_true, false_or, or_false, false_and, and_false, if_true, if_false, not_true_eq_false, not_false_eq_true, jx_tab, kX7_fault, eX7_fault, kX8_fault, eX8_fault, hf, hI]
theorem op_many (h : tp_I M) (a : Int32) : jx_I (d + 20) mX7_many [.ref 0, .int a] M (fun r M1 => jx_I (d + 20) mX8_many [.ref 36, .int a] M1 (fun r2 M2 => r = r2 ∧ tp_I M2)) := by
  have hI := h
  obtain ⟨s, o, ho, h06, h07, hr, hC, hD, hf, ht, hrd, hsh⟩ := h
  have e6 : jx_rv (M 0 6) = .ref o := by rw [h06]; exact tp_rvn (by rcases ho with rfl | rfl <;> decide)
  obtain ⟨n, -, n1, n2, -⟩ := hrd
  obtain ⟨o0, o1, o2, o3, o4, o5, z1, z2, z3, z4, z5⟩ := tp_Ot ho
  by_cases b0 : a = 0
  · subst b0
    simp (disch := first | assumption | omega | decide) only [jx_qI_a, jx_qV_a, jx_qL_a, jn_LL, true_or, or_true, true_and, and_true, false_or, or_false, false_and, and_false, if_true, if_false, not_true_eq_false, not_false_eq_true, jx_tab, kX7_many, eX7_many, e6, kX8_many, eX8_many, hI, hC.2.1, hD.2.1]
  · by_cases b1 : a = 1
    · subst b1
      simp (disch := first | assumption | omega | decide) only [jx_qI_a, jx_qV_a, jx_qL_a, jn_LL, true_or, or_true, true_and, and_true, false_or, or_false, false_and, and_false, if_true, if_false, not_true_eq_false, not_false_eq_true, jx_tab, kX7_many, eX7_many, e6, kX8_many, eX8_many, hI, hC.1, hD.1]
    · by_cases b2 : a = 2
      · subst b2
        simp (disch := first | assumption | omega | decide) only [jx_qI_a, jx_qV_a, jx_qL_a, jn_LL, true_or, or_true, true_and, and_true, false_or, or_false, false_and, and_false, if_true, if_false, not_true_eq_false, not_false_eq_true, jx_tab, kX7_many, eX7_many, e6, kX8_many, eX8_many, hI, hC.2.2.1, hD.2.2.1]
      · by_cases b3 : a = 3
        · subst b3
          simp (disch := first | assumption | omega | decide) only [jx_qI_a, jx_qV_a, jx_qL_a, jn_LL, true_or, or_true, true_and, and_true, false_or, or_false, false_and, and_false, if_true, if_false, not_true_eq_false, not_false_eq_true, jx_tab, kX7_many, eX7_many, e6, kX8_many, eX8_many, hI, hC.2.2.2.1, hD.2.2.2.1]
        · by_cases b4 : a = 4
          · subst b4
            simp (disch := first | assumption | omega | decide) only [jx_qI_a, jx_qV_a, jx_qL_a, jn_LL, true_or, or_true, true_and, and_true, false_or, or_false, false_and, and_false, if_true, if_false, not_true_eq_false, not_false_eq_true, jx_tab, kX7_many, eX7_many, e6, kX8_many, eX8_many, hI, n1, n2]
          · simp (disch := first | assumption | omega | decide) only [jx_qI_a, jx_qV_a, jx_qL_a, jn_LL, true_or, or_true, true_and, and_true, false_or, or_false, false_and, and_false, if_true, if_false, not_true_eq_false, not_false_eq_true, jx_tab, kX7_many, eX7_many, e6, kX8_many, eX8_many, hI, b0, b1, b2, b3, b4]
end TPO1
