/-! as, back, reading, lose, put, cell -/
section TPO4
variable {d : Nat} {M : jx_M} {q : Int32 → jx_M → Prop} {qv : jx_M → Prop}
theorem op_as (h : tp_I M) (a b : Int32) : jx_I (d + 20) mX7_as [.ref 0, .int a, .int b] M (fun r M1 => jx_I (d + 20) mX8_as [.ref 36, .int a, .int b] M1 (fun r2 M2 => r = r2 ∧ tp_I M2)) := by
  obtain ⟨s, o, hJ⟩ := h
  obtain ⟨ho, h06, h07, hr, hC, hD, hf, ht, hrd, hsh⟩ := id hJ
  have hoo : o = 16 ∨ o = 22 := ho
  have e6 : ∀ x, jx_rv (jx_up M 0 9 x 0 6) = .ref o := fun x => by rw [jx_upE, if_neg (by omega), h06]; exact tp_rvn (by omega)
  have hC' : ∀ x, tp_C (jx_up M 0 9 x) o s := fun x => tp_C_fr hC (fun a b q1 q2 => by rw [jx_upE, if_neg (by omega)])
  have hD' : ∀ N : jx_M, (∀ a b, ¬ (a = 0 ∧ b = 9) → N a b = M a b) → ∀ x, tp_D (jx_up N 36 0 x) s := fun N e x => tp_D_fr hD (fun b q1 q2 => by rw [jx_upE, if_neg (by omega)]; exact e _ _ (by omega)) (fun a b q1 q2 => by rw [jx_upE, if_neg (by omega)]; exact e _ _ (by omega))
  have n1 : ∀ x a b, ¬ (a = 0 ∧ b = 9) → jx_up M 0 9 x a b = M a b := fun x a b z => by rw [jx_upE, if_neg z]
  have n2 : ∀ x y a b, ¬ (a = 0 ∧ b = 9) → jx_up (jx_up M 0 9 x) 0 9 y a b = M a b := fun x y a b z => by rw [jx_upE, if_neg z, jx_upE, if_neg z]
  have fin0 : tp_I (jx_up (jx_up M 0 9 0) 36 0 0) := ⟨s, o, tp_J_f 0 hJ (by simp [jx_upE]) (by simp [jx_upE]) (fun a b q1 q2 => by simp only [jx_upE, if_neg q1, if_neg q2])⟩
  obtain ⟨o0, o1, o2, o3, o4, o5, z1, z2, z3, z4, z5⟩ := tp_Ot ho
  obtain ⟨r1, r2, r3, r4, r5, r6⟩ := id hr
  rcases jx_ix a (n := s 0 1) (by omega) with hn | ⟨p, hp, rfl⟩
  · have g1 := fun d q => tp_hasClap_n (d := d) (q := q) ho hr (hC' 0) hn
    have g2 := fun d q => tq_isClap_n (d := d) (q := q) hr (hD' _ (n1 0) 0) hn
    have hx : ∀ q : Int32 → jx_M → Prop, q (-1) (jx_up M 0 9 0) → jx_I (d + 20) mX7_as [.ref 0, .int a, .int b] M q := by
      intro q hq
      simp (disch := first | assumption | omega | decide) only [jx_qI_a, jx_qV_a, jx_qL_a, jn_LL, true_or, or_true, true_and, and_true, false_or, or_false, false_and, and_false, if_true, if_false, not_true_eq_false, not_false_eq_true, jx_tab, kX7_as, eX7_as, e6, g1, hq]
    have hm : ∀ q : Int32 → jx_M → Prop, q (-1) (jx_up (jx_up M 0 9 0) 36 0 0) → jx_I (d + 20) mX8_as [.ref 36, .int a, .int b] (jx_up M 0 9 0) q := by
      intro q hq
      simp (disch := first | assumption | omega | decide) only [jx_qI_a, jx_qV_a, jx_qL_a, jn_LL, true_or, or_true, true_and, and_true, false_or, or_false, false_and, and_false, if_true, if_false, not_true_eq_false, not_false_eq_true, jx_tab, kX8_as, eX8_as, g2, hq]
    exact hx _ (hm _ ⟨rfl, fin0⟩)
  · have g1 := fun d q => tp_hasClap_y (d := d) (q := q) ho hr (hC' 0) hp
    have g2 := fun N e d q => tq_isClap_y (d := d) (q := q) hr (hD' N e 0) hp
    have k1 := ((hC' 0).2.2.2.2.2 p hp).1
    have k3 := fun N e => ((hD' N e 0).2.2.2.2.2 p hp).1
    obtain ⟨y1, y2, y3, y4⟩ := r6 p hp
    rcases jx_ix b (n := 3) (by omega) with hn | ⟨v, hv, rfl⟩
    · have hx : ∀ q : Int32 → jx_M → Prop, q (-2) (jx_up M 0 9 0) → jx_I (d + 20) mX7_as [.ref 0, .int (nI p), .int b] M q := by
        intro q hq
        by_cases hb : b < 0
        · simp (disch := first | assumption | omega | decide) only [jx_qI_a, jx_qV_a, jx_qL_a, jn_LL, true_or, or_true, true_and, and_true, false_or, or_false, false_and, and_false, if_true, if_false, not_true_eq_false, not_false_eq_true, jx_tab, kX7_as, eX7_as, e6, g1, hb, hq]
        · have hb2 := hn.resolve_left hb
          have hb3 : ¬ b ≤ 2 := jn_nle (n := 2) (by decide) hb2
          simp (disch := first | assumption | omega | decide) only [jx_qI_a, jx_qV_a, jx_qL_a, jn_LL, true_or, or_true, true_and, and_true, false_or, or_false, false_and, and_false, if_true, if_false, not_true_eq_false, not_false_eq_true, jx_tab, kX7_as, eX7_as, e6, g1, hb, hb3, hq]
      have hm : ∀ q : Int32 → jx_M → Prop, q (-2) (jx_up (jx_up M 0 9 0) 36 0 0) → jx_I (d + 20) mX8_as [.ref 36, .int (nI p), .int b] (jx_up M 0 9 0) q := by
        intro q hq
        have g2 := fun d q => g2 _ (n1 0) d q
        have e : (2 : Int32) < b ↔ nI 3 ≤ b := (jn_ge (n := 2) (by decide)).symm
        by_cases hb : b < 0
        · simp (disch := first | assumption | omega | decide) only [jx_qI_a, jx_qV_a, jx_qL_a, jn_LL, true_or, or_true, true_and, and_true, false_or, or_false, false_and, and_false, if_true, if_false, not_true_eq_false, not_false_eq_true, jx_tab, kX8_as, eX8_as, g2, tq_within, hb, hq]
        · have hb2 := hn.resolve_left hb
          simp (disch := first | assumption | omega | decide) only [jx_qI_a, jx_qV_a, jx_qL_a, jn_LL, true_or, or_true, true_and, and_true, false_or, or_false, false_and, and_false, if_true, if_false, not_true_eq_false, not_false_eq_true, jx_tab, kX8_as, eX8_as, g2, tq_within, hb, e, hb2, hq]
      exact hx _ (hm _ ⟨rfl, fin0⟩)
    · by_cases hv2 : v ≤ s 3 p
      · have hx : ∀ q : Int32 → jx_M → Prop, q 1 (jx_up M 0 9 0) → jx_I (d + 20) mX7_as [.ref 0, .int (nI p), .int (nI v)] M q := by
          intro q hq
          simp (disch := first | assumption | omega | decide) only [jx_qI_a, jx_qV_a, jx_qL_a, jn_lt, jn_le, jn_eq, jn_L, jn_A, jn_N, jn_LL, jn_add, jn_mul, jn_sub, jn_cl, jn_vin, jn_shl1, jn_shr, jn_or, jn_l_or0, jn_and1, jo_ltT, jo_ltF, jo_leT, jo_leF, jo_eqT, jo_eqF, true_or, or_true, true_and, and_true, false_or, or_false, false_and, and_false, if_true, if_false, not_true_eq_false, not_false_eq_true, jx_tab, kX7_as, eX7_as, e6, g1, k1, z3, hq]
        have hm : ∀ q : Int32 → jx_M → Prop, q 1 (jx_up (jx_up M 0 9 0) 36 0 0) → jx_I (d + 20) mX8_as [.ref 36, .int (nI p), .int (nI v)] (jx_up M 0 9 0) q := by
          intro q hq
          have g2 := fun d q => g2 _ (n1 0) d q
          have k3 := k3 _ (n1 0)
          simp (disch := first | assumption | omega | decide) only [jx_qI_a, jx_qV_a, jx_qL_a, jn_lt, jn_le, jn_eq, jn_L, jn_A, jn_N, jn_LL, jn_add, jn_mul, jn_sub, jn_cl, jn_vin, jn_shl1, jn_shr, jn_or, jn_l_or0, jn_and1, jo_ltT, jo_ltF, jo_leT, jo_leF, jo_eqT, jo_eqF, true_or, or_true, true_and, and_true, false_or, or_false, false_and, and_false, if_true, if_false, not_true_eq_false, not_false_eq_true, jx_tab, kX8_as, eX8_as, g2, k3, tq_within, hq]
        exact hx _ (hm _ ⟨rfl, fin0⟩)
      · have hx : ∀ q : Int32 → jx_M → Prop, q (-10 - 2) (jx_up (jx_up M 0 9 0) 0 9 2) → jx_I (d + 20) mX7_as [.ref 0, .int (nI p), .int (nI v)] M q := by
          intro q hq
          simp (disch := first | assumption | omega | decide) only [jx_qI_a, jx_qV_a, jx_qL_a, jn_lt, jn_le, jn_eq, jn_L, jn_A, jn_N, jn_LL, jn_add, jn_mul, jn_sub, jn_cl, jn_vin, jn_shl1, jn_shr, jn_or, jn_l_or0, jn_and1, jo_ltT, jo_ltF, jo_leT, jo_leF, jo_eqT, jo_eqF, true_or, or_true, true_and, and_true, false_or, or_false, false_and, and_false, if_true, if_false, not_true_eq_false, not_false_eq_true, jx_tab, kX7_as, eX7_as, e6, g1, k1, z3, tp_faultAnswer, hq]
        have hm : ∀ q : Int32 → jx_M → Prop, q (-10 - 2) (jx_up (jx_up (jx_up (jx_up M 0 9 0) 0 9 2) 36 0 0) 36 0 2) → jx_I (d + 20) mX8_as [.ref 36, .int (nI p), .int (nI v)] (jx_up (jx_up M 0 9 0) 0 9 2) q := by
          intro q hq
          have g2 := fun d q => g2 _ (n2 0 2) d q
          have k3 := k3 _ (n2 0 2)
          simp (disch := first | assumption | omega | decide) only [jx_qI_a, jx_qV_a, jx_qL_a, jn_lt, jn_le, jn_eq, jn_L, jn_A, jn_N, jn_LL, jn_add, jn_mul, jn_sub, jn_cl, jn_vin, jn_shl1, jn_shr, jn_or, jn_l_or0, jn_and1, jo_ltT, jo_ltF, jo_leT, jo_leF, jo_eqT, jo_eqF, true_or, or_true, true_and, and_true, false_or, or_false, false_and, and_false, if_true, if_false, not_true_eq_false, not_false_eq_true, jx_tab, kX8_as, eX8_as, g2, k3, tq_within, tq_fails, hq]
        exact hx _ (hm _ ⟨rfl, s, o, tp_J_f 2 hJ (by simp [jx_upE]) (by simp [jx_upE]) (fun a b q1 q2 => by simp only [jx_upE, if_neg q1, if_neg q2])⟩)
theorem tp_J_r {M' : jx_M} {s : tp_S} {o : Nat} (h : tp_J M s o) (hrd' : tp_rd M' s) (e : ∀ a b, ¬ (3 ≤ a ∧ a ≤ 6) → ¬ (53 ≤ a ∧ a ≤ 55) → ¬ (a = 36 ∧ b = 27) → M' a b = M a b) : tp_J M' s o := by
  obtain ⟨h1, h2, h3, h4, h5, h6, h7, h8, h9, h10⟩ := h
  have ho : o = 16 ∨ o = 22 := h1
  refine ⟨h1, ?_, ?_, h4, tp_C_fr h5 (fun a b q1 q2 => e a b (by omega) (by omega) (by omega)), tp_D_fr h6 (fun b q1 q2 => e 36 b (by omega) (by omega) (by omega)) (fun a b q1 q2 => e a b (by omega) (by omega) (by omega)), ?_, ?_, hrd', tp_sh_fr h10 (fun a b q1 q2 q3 => e a b (by omega) (by omega) (by omega))⟩
  · rw [e 0 6 (by omega) (by omega) (by omega)]; exact h2
  · rw [e 0 7 (by omega) (by omega) (by omega)]; exact h3
  · rw [e 36 0 (by omega) (by omega) (by omega), e 0 9 (by omega) (by omega) (by omega)]; exact h7
  · rw [e 36 1 (by omega) (by omega) (by omega), e 0 8 (by omega) (by omega) (by omega)]; exact h8
theorem op_back (h : tp_I M) (a : Int32) : jx_I (d + 20) mX7_back [.ref 0, .int a] M (fun r M1 => jx_I (d + 20) mX8_back [.ref 36, .int a] M1 (fun r2 M2 => r = r2 ∧ tp_I M2)) := by
  have hI := h
  obtain ⟨s, o, hJ⟩ := h
  obtain ⟨ho, h06, h07, hr, hC, hD, hf, ht, hrd, hsh⟩ := id hJ
  obtain ⟨n, hn8, n1, n2, n3⟩ := hrd
  rcases jx_ix a (n := n + 1) (by omega) with hn | ⟨v, hv, rfl⟩
  · have hx : ∀ q : Int32 → jx_M → Prop, q (-2) M → jx_I (d + 20) mX7_back [.ref 0, .int a] M q := by
      intro q hq
      by_cases hb : a < 0
      · simp (disch := first | assumption | omega | decide) only [jx_qI_a, jx_qV_a, jx_qL_a, jn_LL, true_or, or_true, true_and, and_true, false_or, or_false, false_and, and_false, if_true, if_false, not_true_eq_false, not_false_eq_true, jx_tab, kX7_back, eX7_back, n1, hb, hq]
      · have hb2 := hn.resolve_left hb
        have hb3 : ¬ a ≤ nI n := jn_nle (by omega) hb2
        simp (disch := first | assumption | omega | decide) only [jx_qI_a, jx_qV_a, jx_qL_a, jn_LL, true_or, or_true, true_and, and_true, false_or, or_false, false_and, and_false, if_true, if_false, not_true_eq_false, not_false_eq_true, jx_tab, kX7_back, eX7_back, n1, hb, hb3, hq]
    have hm : ∀ q : Int32 → jx_M → Prop, q (-2) M → jx_I (d + 20) mX8_back [.ref 36, .int a] M q := by
      intro q hq
      by_cases hb : a < 0
      · simp (disch := first | assumption | omega | decide) only [jx_qI_a, jx_qV_a, jx_qL_a, jn_LL, true_or, or_true, true_and, and_true, false_or, or_false, false_and, and_false, if_true, if_false, not_true_eq_false, not_false_eq_true, jx_tab, kX8_back, eX8_back, n2, tq_within, hb, hq]
      · have hb2 := hn.resolve_left hb
        have hb3 : nI n < a := (jn_ge (by omega)).mp hb2
        simp (disch := first | assumption | omega | decide) only [jx_qI_a, jx_qV_a, jx_qL_a, jn_LL, true_or, or_true, true_and, and_true, false_or, or_false, false_and, and_false, if_true, if_false, not_true_eq_false, not_false_eq_true, jx_tab, kX8_back, eX8_back, n2, tq_within, hb, hb3, hq]
    exact hx _ (hm _ ⟨rfl, hI⟩)
  · have e1 : ∀ x, jx_up M 3 3 x 3 3 = x := fun x => by simp [jx_upE]
    have e2 : ∀ x, jx_up M 3 3 x 36 27 = nI n := fun x => by rw [jx_upE, if_neg (by omega)]; exact n2
    have e3 : ∀ (N : jx_M) x, jx_up N 36 27 x 36 27 = x := fun N x => by simp [jx_upE]
    have hx : ∀ q : Int32 → jx_M → Prop, q (nI (n - v)) (jx_up M 3 3 (nI (n - v))) → jx_I (d + 20) mX7_back [.ref 0, .int (nI v)] M q := by
      intro q hq
      simp (disch := first | assumption | omega | decide) only [jx_qI_a, jx_qV_a, jx_qL_a, jn_lt, jn_le, jn_eq, jn_L, jn_A, jn_N, jn_LL, jn_add, jn_mul, jn_sub, jn_cl, jn_vin, jn_shl1, jn_shr, jn_or, jn_l_or0, jn_and1, jo_ltT, jo_ltF, jo_leT, jo_leF, jo_eqT, jo_eqF, true_or, or_true, true_and, and_true, false_or, or_false, false_and, and_false, if_true, if_false, not_true_eq_false, not_false_eq_true, jx_tab, kX7_back, eX7_back, n1, e1, hq]
    have hm : ∀ q : Int32 → jx_M → Prop, q (nI (n - v)) (jx_up (jx_up M 3 3 (nI (n - v))) 36 27 (nI (n - v))) → jx_I (d + 20) mX8_back [.ref 36, .int (nI v)] (jx_up M 3 3 (nI (n - v))) q := by
      intro q hq
      simp (disch := first | assumption | omega | decide) only [jx_qI_a, jx_qV_a, jx_qL_a, jn_lt, jn_le, jn_eq, jn_L, jn_A, jn_N, jn_LL, jn_add, jn_mul, jn_sub, jn_cl, jn_vin, jn_shl1, jn_shr, jn_or, jn_l_or0, jn_and1, jo_ltT, jo_ltF, jo_leT, jo_leF, jo_eqT, jo_eqF, true_or, or_true, true_and, and_true, false_or, or_false, false_and, and_false, if_true, if_false, not_true_eq_false, not_false_eq_true, jx_tab, kX8_back, eX8_back, e2, e3, tq_within, hq]
    refine hx _ (hm _ ⟨rfl, s, o, tp_J_r hJ ⟨n - v, by omega, ?_, by simp [jx_upE], fun k hk => ?_⟩ (fun a b q1 q2 q3 => ?_)⟩)
    · rw [jx_upE, if_neg (by omega)]; simp [jx_upE]
    · obtain ⟨c, m, w, g1, g2, g3, g4, g5, g6, g7, g8, g9⟩ := n3 k (by omega)
      refine ⟨c, m, w, g1, g2, g3, ?_, ?_, ?_, ?_, ?_, ?_⟩
      · rw [jx_upE, if_neg (by omega), jx_upE, if_neg (by omega)]; exact g4
      · rw [jx_upE, if_neg (by omega), jx_upE, if_neg (by omega)]; exact g5
      · rw [jx_upE, if_neg (by omega), jx_upE, if_neg (by omega)]; exact g6
      · rw [jx_upE, if_neg (by omega), jx_upE, if_neg (by omega)]; exact g7
      · rw [jx_upE, if_neg (by omega), jx_upE, if_neg (by omega)]; exact g8
      · rw [jx_upE, if_neg (by omega), jx_upE, if_neg (by omega)]; exact g9
    · rw [jx_upE, if_neg q3, jx_upE, if_neg (by omega)]
theorem op_reading (h : tp_I M) (a b c : Int32) : jx_I (d + 20) mX7_reading [.ref 0, .int a, .int b, .int c] M (fun r M1 => jx_I (d + 20) mX8_reading [.ref 36, .int a, .int b, .int c] M1 (fun r2 M2 => r = r2 ∧ tp_I M2)) := by
  have hI := h
  obtain ⟨s, o, hJ⟩ := h
  obtain ⟨ho, h06, h07, hr, hC, hD, hf, ht, hrd, hsh⟩ := id hJ
  obtain ⟨n, hn8, n1, n2, n3⟩ := hrd
  have e6 : jx_rv (M 0 6) = .ref o := by rw [h06]; exact tp_rvn (by rcases ho with rfl | rfl <;> decide)
  have hoo : o = 16 ∨ o = 22 := ho
  obtain ⟨o0, o1, o2, o3, o4, o5, z1, z2, z3, z4, z5⟩ := tp_Ot ho
  obtain ⟨r1, r2, r3, r4, r5, r6⟩ := id hr
  rcases jx_ix a (n := s 0 1) (by omega) with hn | ⟨p, hp, rfl⟩
  · have g1 := fun d q => tp_hasClap_n (d := d) (q := q) ho hr hC hn
    have g2 := fun d q => tq_isClap_n (d := d) (q := q) hr hD hn
    have hx : ∀ q : Int32 → jx_M → Prop, q (-1) M → jx_I (d + 20) mX7_reading [.ref 0, .int a, .int b, .int c] M q := by
      intro q hq
      simp (disch := first | assumption | omega | decide) only [jx_qI_a, jx_qV_a, jx_qL_a, jn_LL, true_or, or_true, true_and, and_true, false_or, or_false, false_and, and_false, if_true, if_false, not_true_eq_false, not_false_eq_true, jx_tab, kX7_reading, eX7_reading, e6, g1, hq]
    have hm : ∀ q : Int32 → jx_M → Prop, q (-1) M → jx_I (d + 20) mX8_reading [.ref 36, .int a, .int b, .int c] M q := by
      intro q hq
      simp (disch := first | assumption | omega | decide) only [jx_qI_a, jx_qV_a, jx_qL_a, jn_LL, true_or, or_true, true_and, and_true, false_or, or_false, false_and, and_false, if_true, if_false, not_true_eq_false, not_false_eq_true, jx_tab, kX8_reading, eX8_reading, g2, hq]
    exact hx _ (hm _ ⟨rfl, hI⟩)
  · have g1 := fun d q => tp_hasClap_y (d := d) (q := q) ho hr hC hp
    have g2 := fun d q => tq_isClap_y (d := d) (q := q) hr hD hp
    rcases jx_ix b (n := 10) (by omega) with hn | ⟨m, hm, rfl⟩
    · have g3 := fun M d q => tp_isMonth_n (d := d) (q := q) (M := M) hn
      have g4 := fun M d q => tq_isMonths_n (d := d) (q := q) (M := M) hn
      have hx : ∀ q : Int32 → jx_M → Prop, q (-2) M → jx_I (d + 20) mX7_reading [.ref 0, .int (nI p), .int b, .int c] M q := by
        intro q hq
        simp (disch := first | assumption | omega | decide) only [jx_qI_a, jx_qV_a, jx_qL_a, jn_LL, true_or, or_true, true_and, and_true, false_or, or_false, false_and, and_false, if_true, if_false, not_true_eq_false, not_false_eq_true, jx_tab, kX7_reading, eX7_reading, e6, g1, g3, hq]
      have hm : ∀ q : Int32 → jx_M → Prop, q (-2) M → jx_I (d + 20) mX8_reading [.ref 36, .int (nI p), .int b, .int c] M q := by
        intro q hq
        simp (disch := first | assumption | omega | decide) only [jx_qI_a, jx_qV_a, jx_qL_a, jn_LL, true_or, or_true, true_and, and_true, false_or, or_false, false_and, and_false, if_true, if_false, not_true_eq_false, not_false_eq_true, jx_tab, kX8_reading, eX8_reading, g2, g4, hq]
      exact hx _ (hm _ ⟨rfl, hI⟩)
    · have g3 := fun M d q => tp_isMonth_y (d := d) (q := q) (M := M) hm
      have g4 := fun M d q => tq_isMonths_y (d := d) (q := q) (M := M) hm
      rcases jx_ix c (n := 100) (by omega) with hn | ⟨v, hv, rfl⟩
      · have hx : ∀ q : Int32 → jx_M → Prop, q (-2) M → jx_I (d + 20) mX7_reading [.ref 0, .int (nI p), .int (nI m), .int c] M q := by
          intro q hq
          by_cases hb : c < 0
          · simp (disch := first | assumption | omega | decide) only [jx_qI_a, jx_qV_a, jx_qL_a, jn_LL, true_or, or_true, true_and, and_true, false_or, or_false, false_and, and_false, if_true, if_false, not_true_eq_false, not_false_eq_true, jx_tab, kX7_reading, eX7_reading, e6, g1, g3, hb, hq]
          · have hb2 := hn.resolve_left hb
            have hb3 : ¬ c ≤ 99 := jn_nle (n := 99) (by decide) hb2
            simp (disch := first | assumption | omega | decide) only [jx_qI_a, jx_qV_a, jx_qL_a, jn_LL, true_or, or_true, true_and, and_true, false_or, or_false, false_and, and_false, if_true, if_false, not_true_eq_false, not_false_eq_true, jx_tab, kX7_reading, eX7_reading, e6, g1, g3, hb, hb3, hq]
        have hm : ∀ q : Int32 → jx_M → Prop, q (-2) M → jx_I (d + 20) mX8_reading [.ref 36, .int (nI p), .int (nI m), .int c] M q := by
          intro q hq
          have e : (99 : Int32) < c ↔ nI 100 ≤ c := (jn_ge (n := 99) (by decide)).symm
          by_cases hb : c < 0
          · simp (disch := first | assumption | omega | decide) only [jx_qI_a, jx_qV_a, jx_qL_a, jn_LL, true_or, or_true, true_and, and_true, false_or, or_false, false_and, and_false, if_true, if_false, not_true_eq_false, not_false_eq_true, jx_tab, kX8_reading, eX8_reading, g2, g4, tq_within, hb, hq]
          · have hb2 := hn.resolve_left hb
            simp (disch := first | assumption | omega | decide) only [jx_qI_a, jx_qV_a, jx_qL_a, jn_LL, true_or, or_true, true_and, and_true, false_or, or_false, false_and, and_false, if_true, if_false, not_true_eq_false, not_false_eq_true, jx_tab, kX8_reading, eX8_reading, g2, g4, tq_within, hb, e, hb2, hq]
        exact hx _ (hm _ ⟨rfl, hI⟩)
      · by_cases h8 : n = 8
        · have hx : ∀ q : Int32 → jx_M → Prop, q (-4) M → jx_I (d + 20) mX7_reading [.ref 0, .int (nI p), .int (nI m), .int (nI v)] M q := by
            intro q hq
            simp (disch := first | assumption | omega | decide) only [jx_qI_a, jx_qV_a, jx_qL_a, jn_lt, jn_le, jn_eq, jn_L, jn_A, jn_N, jn_LL, jn_add, jn_mul, jn_sub, jn_cl, jn_vin, jn_shl1, jn_shr, jn_or, jn_l_or0, jn_and1, jo_ltT, jo_ltF, jo_leT, jo_leF, jo_eqT, jo_eqF, true_or, or_true, true_and, and_true, false_or, or_false, false_and, and_false, if_true, if_false, not_true_eq_false, not_false_eq_true, jx_tab, kX7_reading, eX7_reading, e6, g1, g3, kX3_add, eX3_add, n1, hq]
          have hm : ∀ q : Int32 → jx_M → Prop, q (-4) M → jx_I (d + 20) mX8_reading [.ref 36, .int (nI p), .int (nI m), .int (nI v)] M q := by
            intro q hq
            simp (disch := first | assumption | omega | decide) only [jx_qI_a, jx_qV_a, jx_qL_a, jn_lt, jn_le, jn_eq, jn_L, jn_A, jn_N, jn_LL, jn_add, jn_mul, jn_sub, jn_cl, jn_vin, jn_shl1, jn_shr, jn_or, jn_l_or0, jn_and1, jo_ltT, jo_ltF, jo_leT, jo_leF, jo_eqT, jo_eqF, true_or, or_true, true_and, and_true, false_or, or_false, false_and, and_false, if_true, if_false, not_true_eq_false, not_false_eq_true, jx_tab, kX8_reading, eX8_reading, g2, g4, tq_within, n2, hq]
          exact hx _ (hm _ ⟨rfl, hI⟩)
        · have u3 : ∀ (N : jx_M) k j x, k ≠ 3 → jx_up N k j x 3 3 = N 3 3 := fun N k j x z => by rw [jx_upE, if_neg (by omega)]
          have u4 : ∀ (N : jx_M) x, jx_up N 3 3 x 3 3 = x := fun N x => by simp [jx_upE]
          have w3 : ∀ (N : jx_M) k j x, k ≠ 36 → jx_up N k j x 36 27 = N 36 27 := fun N k j x z => by rw [jx_upE, if_neg (by omega)]
          have w4 : ∀ (N : jx_M) x, jx_up N 36 27 x 36 27 = x := fun N x => by simp [jx_upE]
          have hx : ∀ q : Int32 → jx_M → Prop, q (nI n) (jx_up (jx_up (jx_up (jx_up M 4 n (nI p)) 5 n (nI m)) 6 n (nI v)) 3 3 (nI (n + 1))) → jx_I (d + 20) mX7_reading [.ref 0, .int (nI p), .int (nI m), .int (nI v)] M q := by
            intro q hq
            simp (disch := first | assumption | omega | decide) only [jx_qI_a, jx_qV_a, jx_qL_a, jn_lt, jn_le, jn_eq, jn_L, jn_A, jn_N, jn_LL, jn_add, jn_mul, jn_sub, jn_cl, jn_vin, jn_shl1, jn_shr, jn_or, jn_l_or0, jn_and1, jo_ltT, jo_ltF, jo_leT, jo_leF, jo_eqT, jo_eqF, true_or, or_true, true_and, and_true, false_or, or_false, false_and, and_false, if_true, if_false, not_true_eq_false, not_false_eq_true, jx_tab, kX7_reading, eX7_reading, e6, g1, g3, kX3_add, eX3_add, n1, u3, u4, Nat.add_sub_cancel, hq]
          have hm : ∀ N : jx_M, N 36 27 = nI n → tp_D N s → ∀ q : Int32 → jx_M → Prop, q (nI n) (jx_up (jx_up (jx_up (jx_up N 53 n (nI p)) 54 n (nI m)) 55 n (nI v)) 36 27 (nI (n + 1))) → jx_I (d + 20) mX8_reading [.ref 36, .int (nI p), .int (nI m), .int (nI v)] N q := by
            intro N n2 hD q hq
            have g2 := fun d q => tq_isClap_y (d := d) (q := q) hr hD hp
            simp (disch := first | assumption | omega | decide) only [jx_qI_a, jx_qV_a, jx_qL_a, jn_lt, jn_le, jn_eq, jn_L, jn_A, jn_N, jn_LL, jn_add, jn_mul, jn_sub, jn_cl, jn_vin, jn_shl1, jn_shr, jn_or, jn_l_or0, jn_and1, jo_ltT, jo_ltF, jo_leT, jo_leF, jo_eqT, jo_eqF, true_or, or_true, true_and, and_true, false_or, or_false, false_and, and_false, if_true, if_false, not_true_eq_false, not_false_eq_true, jx_tab, kX8_reading, eX8_reading, g2, g4, tq_within, n2, w3, w4, Nat.add_sub_cancel, hq]
          refine hx _ (hm _ ?_ ?_ _ ⟨rfl, s, o, tp_J_r hJ ⟨n + 1, by omega, ?_, by simp [jx_upE], fun k hk => ?_⟩ (fun a b q1 q2 q3 => ?_)⟩)
          · simp [jx_upE, n2]
          · exact tp_D_fr hD (fun b q1 q2 => by simp only [jx_upE]; rw [if_neg (by omega), if_neg (by omega), if_neg (by omega), if_neg (by omega)]) (fun a b q1 q2 => by simp only [jx_upE]; rw [if_neg (by omega), if_neg (by omega), if_neg (by omega), if_neg (by omega)])
          · simp [jx_upE]
          · by_cases hkn : k = n
            · subst hkn
              exact ⟨p, m, v, hp, by omega, by omega, by simp [jx_upE], by simp [jx_upE], by simp [jx_upE], by simp [jx_upE], by simp [jx_upE], by simp [jx_upE]⟩
            · obtain ⟨c, m, w, g1, g2, g3, g4, g5, g6, g7, g8, g9⟩ := n3 k (by omega)
              exact ⟨c, m, w, g1, g2, g3, by simp [jx_upE, hkn, g4], by simp [jx_upE, hkn, g5], by simp [jx_upE, hkn, g6], by simp [jx_upE, hkn, g7], by simp [jx_upE, hkn, g8], by simp [jx_upE, hkn, g9]⟩
          · simp only [jx_upE]
            rw [if_neg q3, if_neg (by omega), if_neg (by omega), if_neg (by omega), if_neg (by omega), if_neg (by omega), if_neg (by omega), if_neg (by omega)]
end TPO4
