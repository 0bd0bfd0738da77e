/-! telling, corking, kinds; who takes it; readings -/
section TPO3
variable {d : Nat} {M : jx_M} {q : Int32 → jx_M → Prop} {qv : jx_M → Prop}
theorem tp_leave {k : Int32} : jx_V d mX7_leaveInTrace [.ref 0, .int k] M qv ↔ qv (jx_up M 0 8 (31 * M 0 8 + k)) := by
  simp (disch := first | assumption | omega | decide) only [jx_qI_a, jx_qV_a, jx_qL_a, jn_LL, true_or, or_true, true_and, and_true, false_or, or_false, false_and, and_false, if_true, if_false, not_true_eq_false, not_false_eq_true, jx_tab, kX7_leaveInTrace, eX7_leaveInTrace]
theorem tq_begins {k : Int32} : jx_V d mX8_begins [.ref 36, .int k] M qv ↔ qv (jx_up M 36 1 (31 * M 36 1 + k)) := by
  simp (disch := first | assumption | omega | decide) only [jx_qI_a, jx_qV_a, jx_qL_a, jn_LL, true_or, or_true, true_and, and_true, false_or, or_false, false_and, and_false, if_true, if_false, not_true_eq_false, not_false_eq_true, jx_tab, kX8_begins, eX8_begins]
theorem tp_I_tr {s : tp_S} {o : Nat} {M' : jx_M} (h : tp_J M s o) (e0 : M' 36 1 = M' 0 8) (e : ∀ a b, ¬ (a = 0 ∧ b = 8) → ¬ (a = 36 ∧ b = 1) → M' a b = M a b) : tp_I M' := ⟨s, o, tp_I_t (M' 0 8) h rfl e0 e⟩
theorem op_cork (h : tp_I M) (a : Int32) : jx_I (d + 20) mX7_cork [.ref 0, .int a] M (fun r M1 => jx_I (d + 20) mX8_cork [.ref 36, .int a] M1 (fun r2 M2 => r = r2 ∧ tp_I M2)) := by
  have hI := h
  obtain ⟨s, o, hJ⟩ := h
  obtain ⟨ho, h06, h07, hr, hC, hD, hf, ht, hrd, hsh⟩ := id hJ
  have e6 : jx_rv (M 0 6) = .ref o := by rw [h06]; exact tp_rvn (by rcases ho with rfl | rfl <;> decide)
  have hoo : o = 16 ∨ o = 22 := ho
  obtain ⟨o0, o1, o2, o3, o4, o5, z1, z2, z3, z4, z5⟩ := tp_Ot ho
  obtain ⟨r1, r2, r3, r4, r5, r6⟩ := id hr
  rcases jx_ix a (n := s 0 1) (by omega) with hn | ⟨p, hp, rfl⟩
  · have g1 := fun d q => tp_hasClap_n (d := d) (q := q) ho hr hC hn
    have g2 := fun d q => tq_isClap_n (d := d) (q := q) hr hD hn
    simp (disch := first | assumption | omega | decide) only [jx_qI_a, jx_qV_a, jx_qL_a, jn_LL, true_or, or_true, true_and, and_true, false_or, or_false, false_and, and_false, if_true, if_false, not_true_eq_false, not_false_eq_true, jx_tab, kX7_cork, eX7_cork, e6, g1, kX8_cork, eX8_cork, g2, hI]
  · have g1 := fun d q => tp_hasClap_y (d := d) (q := q) ho hr hC hp
    obtain ⟨k1, k2, k5⟩ := hC.2.2.2.2.2 p hp
    obtain ⟨y1, y2, y3, y4⟩ := r6 p hp
    have fin : ∀ k : Int32, tp_I (jx_up (jx_up M 0 8 (31 * M 0 8 + k)) 36 1 (31 * M 36 1 + k)) := fun k => tp_I_tr hJ (by simp [jx_upE, ht]) (fun a b q1 q2 => by rw [jx_upE, if_neg q2, jx_upE, if_neg q1])
    have hD1 : ∀ x, tp_D (jx_up M 0 8 x) s := fun x => tp_D_fr hD (fun b q1 q2 => by rw [jx_upE, if_neg (by omega)]) (fun a b q1 q2 => by rw [jx_upE, if_neg (by omega)])
    have g2 := fun x d q => tq_isClap_y (M := jx_up M 0 8 x) (d := d) (q := q) hr (hD1 x) hp
    have k6 := fun x => ((hD1 x).2.2.2.2.2 p hp).1
    by_cases e2 : s 3 p = 2
    · have hx : ∀ q : Int32 → jx_M → Prop, q 60 (jx_up M 0 8 (31 * M 0 8 + 5)) → jx_I (d + 20) mX7_cork [.ref 0, .int (nI p)] M q := by
        intro q hq
        simp (disch := first | assumption | omega | decide) only [jx_qI_a, jx_qV_a, jx_qL_a, jn_lt, jn_le, jn_eq, jn_L, jn_A, jn_N, jn_LL, jn_add, jn_mul, jn_sub, jn_cl, jn_vin, jn_shl1, jn_shr, jn_or, jn_l_or0, jn_and1, jo_ltT, jo_ltF, jo_leT, jo_leF, jo_eqT, jo_eqF, true_or, or_true, true_and, and_true, false_or, or_false, false_and, and_false, if_true, if_false, not_true_eq_false, not_false_eq_true, jx_tab, kX7_cork, eX7_cork, e6, g1, k1, z3, e2, tp_leave, hq]
      have hm : ∀ q : Int32 → jx_M → Prop, q 60 (jx_up (jx_up M 0 8 (31 * M 0 8 + 5)) 36 1 (31 * M 36 1 + 5)) → jx_I (d + 20) mX8_cork [.ref 36, .int (nI p)] (jx_up M 0 8 (31 * M 0 8 + 5)) q := by
        intro q hq
        have z : (jx_up (jx_up M 0 8 (31 * M 0 8 + 5)) 36 1 (31 * jx_up M 0 8 (31 * M 0 8 + 5) 36 1 + 5)) 42 p = nI (s 3 p) := by rw [jx_upE, if_neg (by omega)]; exact k6 _
        have z1 : jx_up M 0 8 (31 * M 0 8 + 5) 36 1 = M 36 1 := by rw [jx_upE, if_neg (by omega)]
        rw [z1] at z
        simp (disch := first | assumption | omega | decide) only [jx_qI_a, jx_qV_a, jx_qL_a, jn_lt, jn_le, jn_eq, jn_L, jn_A, jn_N, jn_LL, jn_add, jn_mul, jn_sub, jn_cl, jn_vin, jn_shl1, jn_shr, jn_or, jn_l_or0, jn_and1, jo_ltT, jo_ltF, jo_leT, jo_leF, jo_eqT, jo_eqF, true_or, or_true, true_and, and_true, false_or, or_false, false_and, and_false, if_true, if_false, not_true_eq_false, not_false_eq_true, jx_tab, kX8_cork, eX8_cork, g2, k6, tq_begins, z, z1, e2, hq]
      exact hx _ (hm _ ⟨rfl, fin 5⟩)
    · have hx : ∀ q : Int32 → jx_M → Prop, q (nI p) (jx_up M 0 8 (31 * M 0 8 + 4)) → jx_I (d + 20) mX7_cork [.ref 0, .int (nI p)] M q := by
        intro q hq
        simp (disch := first | assumption | omega | decide) only [jx_qI_a, jx_qV_a, jx_qL_a, jn_lt, jn_le, jn_eq, jn_L, jn_A, jn_N, jn_LL, jn_add, jn_mul, jn_sub, jn_cl, jn_vin, jn_shl1, jn_shr, jn_or, jn_l_or0, jn_and1, jo_ltT, jo_ltF, jo_leT, jo_leF, jo_eqT, jo_eqF, true_or, or_true, true_and, and_true, false_or, or_false, false_and, and_false, if_true, if_false, not_true_eq_false, not_false_eq_true, jx_tab, kX7_cork, eX7_cork, e6, g1, k1, z3, e2, tp_leave, hq]
      have hm : ∀ q : Int32 → jx_M → Prop, q (nI p) (jx_up (jx_up M 0 8 (31 * M 0 8 + 4)) 36 1 (31 * M 36 1 + 4)) → jx_I (d + 20) mX8_cork [.ref 36, .int (nI p)] (jx_up M 0 8 (31 * M 0 8 + 4)) q := by
        intro q hq
        have z : (jx_up (jx_up M 0 8 (31 * M 0 8 + 4)) 36 1 (31 * jx_up M 0 8 (31 * M 0 8 + 4) 36 1 + 4)) 42 p = nI (s 3 p) := by rw [jx_upE, if_neg (by omega)]; exact k6 _
        have z1 : jx_up M 0 8 (31 * M 0 8 + 4) 36 1 = M 36 1 := by rw [jx_upE, if_neg (by omega)]
        rw [z1] at z
        simp (disch := first | assumption | omega | decide) only [jx_qI_a, jx_qV_a, jx_qL_a, jn_lt, jn_le, jn_eq, jn_L, jn_A, jn_N, jn_LL, jn_add, jn_mul, jn_sub, jn_cl, jn_vin, jn_shl1, jn_shr, jn_or, jn_l_or0, jn_and1, jo_ltT, jo_ltF, jo_leT, jo_leF, jo_eqT, jo_eqF, true_or, or_true, true_and, and_true, false_or, or_false, false_and, and_false, if_true, if_false, not_true_eq_false, not_false_eq_true, jx_tab, kX8_cork, eX8_cork, g2, k6, tq_begins, z, z1, e2, hq]
      exact hx _ (hm _ ⟨rfl, fin 4⟩)
theorem tp_clapBody {s : tp_S} {o p : Nat} (ho : tp_O o) (hr : tp_rg s) (e6 : jx_rv (M 0 6) = .ref o) (hC : tp_C M o s) (hp : p < s 0 1) : jx_I (d + 1) mX7_clapBody [.ref 0, .int (nI p)] M q ↔ q (nI (s 4 p)) (jx_up M 0 8 (31 * M 0 8 + 1)) := by
  have hoo : o = 16 ∨ o = 22 := ho
  obtain ⟨o0, o1, o2, o3, o4, o5, z1, z2, z3, z4, z5⟩ := tp_Ot ho
  obtain ⟨r1, r2, r3, r4, r5, r6⟩ := id hr
  have k : jx_up M 0 8 (31 * M 0 8 + 1) (o + 4) p = nI (s 4 p) := by rw [jx_upE, if_neg (by omega)]; exact (hC.2.2.2.2.2 p hp).2.1
  have k6 : jx_rv (jx_up M 0 8 (31 * M 0 8 + 1) 0 6) = .ref o := by rw [jx_upE, if_neg (by omega)]; exact e6
  simp (disch := first | assumption | omega | decide) only [jx_qI_a, jx_qV_a, jx_qL_a, jn_lt, jn_le, jn_eq, jn_L, jn_A, jn_N, jn_LL, jn_add, jn_mul, jn_sub, jn_cl, jn_vin, jn_shl1, jn_shr, jn_or, jn_l_or0, jn_and1, jo_ltT, jo_ltF, jo_leT, jo_leF, jo_eqT, jo_eqF, true_or, or_true, true_and, and_true, false_or, or_false, false_and, and_false, if_true, if_false, not_true_eq_false, not_false_eq_true, jx_tab, kX7_clapBody, eX7_clapBody, tp_leave, k6, k, z4]
theorem tp_dryBody {s : tp_S} {o p : Nat} (ho : tp_O o) (hr : tp_rg s) (e6 : jx_rv (M 0 6) = .ref o) (hC : tp_C M o s) (hp : p < s 0 1) : jx_I (d + 2) mX7_dryBody [.ref 0, .int (nI p)] M q ↔ q (nI (s 4 p + 100)) (jx_up (jx_up M 0 8 (31 * M 0 8 + 2)) 0 8 (31 * (31 * M 0 8 + 2) + 1)) := by
  have hoo : o = 16 ∨ o = 22 := ho
  have k6 : jx_rv (jx_up M 0 8 (31 * M 0 8 + 2) 0 6) = .ref o := by rw [jx_upE, if_neg (by omega)]; exact e6
  have hC1 : tp_C (jx_up M 0 8 (31 * M 0 8 + 2)) o s := tp_C_fr hC (fun a b q1 q2 => by rw [jx_upE, if_neg (by omega)])
  have g := fun d q => tp_clapBody (d := d) (q := q) ho hr k6 hC1 hp
  have e8 : jx_up M 0 8 (31 * M 0 8 + 2) 0 8 = 31 * M 0 8 + 2 := by simp [jx_upE]
  rw [e8] at g
  simp (disch := first | assumption | omega | decide) only [jx_qI_a, jx_qV_a, jx_qL_a, jn_lt, jn_le, jn_eq, jn_L, jn_A, jn_N, jn_LL, jn_add, jn_mul, jn_sub, jn_cl, jn_vin, jn_shl1, jn_shr, jn_or, jn_l_or0, jn_and1, jo_ltT, jo_ltF, jo_leT, jo_leF, jo_eqT, jo_eqF, true_or, or_true, true_and, and_true, false_or, or_false, false_and, and_false, if_true, if_false, not_true_eq_false, not_false_eq_true, jx_tab, kX7_dryBody, eX7_dryBody, tp_leave, g]
theorem op_tell (h : tp_I M) (a : Int32) : jx_I (d + 20) mX7_tell [.ref 0, .int a] M (fun r M1 => jx_I (d + 20) mX8_tell [.ref 36, .int a] M1 (fun r2 M2 => r = r2 ∧ tp_I M2)) := by
  have hI := h
  obtain ⟨s, o, hJ⟩ := h
  obtain ⟨ho, h06, h07, hr, hC, hD, hf, ht, hrd, hsh⟩ := id hJ
  have e6 : jx_rv (M 0 6) = .ref o := by rw [h06]; exact tp_rvn (by rcases ho with rfl | rfl <;> decide)
  have hoo : o = 16 ∨ o = 22 := ho
  obtain ⟨o0, o1, o2, o3, o4, o5, z1, z2, z3, z4, z5⟩ := tp_Ot ho
  obtain ⟨r1, r2, r3, r4, r5, r6⟩ := id hr
  rcases jx_ix a (n := s 0 1) (by omega) with hn | ⟨p, hp, rfl⟩
  · have g1 := fun d q => tp_hasClap_n (d := d) (q := q) ho hr hC hn
    have g2 := fun d q => tq_isClap_n (d := d) (q := q) hr hD hn
    have hx : ∀ q : Int32 → jx_M → Prop, q (-1) M → jx_I (d + 20) mX7_tell [.ref 0, .int a] M q := by
      intro q hq
      simp (disch := first | assumption | omega | decide) only [jx_qI_a, jx_qV_a, jx_qL_a, jn_LL, true_or, or_true, true_and, and_true, false_or, or_false, false_and, and_false, if_true, if_false, not_true_eq_false, not_false_eq_true, jx_tab, kX7_tell, eX7_tell, e6, g1, hq]
    have hm : ∀ q : Int32 → jx_M → Prop, q (-1) M → jx_I (d + 20) mX8_tell [.ref 36, .int a] M q := by
      intro q hq
      simp (disch := first | assumption | omega | decide) only [jx_qI_a, jx_qV_a, jx_qL_a, jn_LL, true_or, or_true, true_and, and_true, false_or, or_false, false_and, and_false, if_true, if_false, not_true_eq_false, not_false_eq_true, jx_tab, kX8_tell, eX8_tell, g2, hq]
    exact hx _ (hm _ ⟨rfl, hI⟩)
  · have g1 := fun d q => tp_hasClap_y (d := d) (q := q) ho hr hC hp
    obtain ⟨k1, k2, k5⟩ := hC.2.2.2.2.2 p hp
    obtain ⟨y1, y2, y3, y4⟩ := r6 p hp
    have hD1 : ∀ M1 : jx_M, (∀ a b, 36 ≤ a → M1 a b = M a b) → tp_D M1 s := fun M1 e => tp_D_fr hD (fun b q1 q2 => e 36 b (by omega)) (fun a b q1 q2 => e a b (by omega))
    have hm0 : ∀ M1 : jx_M, (∀ a b, 36 ≤ a → M1 a b = M a b) → s 3 p = 0 → ∀ q : Int32 → jx_M → Prop, q (nI (s 4 p)) (jx_up M1 36 1 (31 * M 36 1 + 1)) → jx_I (d + 20) mX8_tell [.ref 36, .int (nI p)] M1 q := by
      intro M1 e e0 q hq
      have hD1 := hD1 M1 e
      have g2 := fun d q => tq_isClap_y (d := d) (q := q) hr hD1 hp
      obtain ⟨k1, k2, k5⟩ := hD1.2.2.2.2.2 p hp
      have e1 := e 36 1 (by omega)
      simp (disch := first | assumption | omega | decide) only [jx_qI_a, jx_qV_a, jx_qL_a, jn_lt, jn_le, jn_eq, jn_L, jn_A, jn_N, jn_LL, jn_add, jn_mul, jn_sub, jn_cl, jn_vin, jn_shl1, jn_shr, jn_or, jn_l_or0, jn_and1, jo_ltT, jo_ltF, jo_leT, jo_leF, jo_eqT, jo_eqF, true_or, or_true, true_and, and_true, false_or, or_false, false_and, and_false, if_true, if_false, not_true_eq_false, not_false_eq_true, jx_tab, kX8_tell, eX8_tell, g2, k1, k2, e0, tq_begins, e1, hq]
    have hm1 : ∀ M1 : jx_M, (∀ a b, 36 ≤ a → M1 a b = M a b) → s 3 p = 1 → ∀ q : Int32 → jx_M → Prop, q (nI (s 4 p + 100)) (jx_up (jx_up M1 36 1 (31 * M 36 1 + 2)) 36 1 (31 * (31 * M 36 1 + 2) + 1)) → jx_I (d + 20) mX8_tell [.ref 36, .int (nI p)] M1 q := by
      intro M1 e e0 q hq
      have hD1 := hD1 M1 e
      have g2 := fun d q => tq_isClap_y (d := d) (q := q) hr hD1 hp
      obtain ⟨k1, k2, k5⟩ := hD1.2.2.2.2.2 p hp
      have e1 := e 36 1 (by omega)
      have e2 : ∀ x, jx_up M1 36 1 x 36 1 = x := fun x => by simp [jx_upE]
      simp (disch := first | assumption | omega | decide) only [jx_qI_a, jx_qV_a, jx_qL_a, jn_lt, jn_le, jn_eq, jn_L, jn_A, jn_N, jn_LL, jn_add, jn_mul, jn_sub, jn_cl, jn_vin, jn_shl1, jn_shr, jn_or, jn_l_or0, jn_and1, jo_ltT, jo_ltF, jo_leT, jo_leF, jo_eqT, jo_eqF, true_or, or_true, true_and, and_true, false_or, or_false, false_and, and_false, if_true, if_false, not_true_eq_false, not_false_eq_true, jx_tab, kX8_tell, eX8_tell, g2, k1, k2, e0, tq_begins, e1, e2, hq]
    have hm2 : ∀ M1 : jx_M, (∀ a b, 36 ≤ a → M1 a b = M a b) → s 3 p = 2 → ∀ q : Int32 → jx_M → Prop, q (nI (2 * s 4 p + 100)) (jx_up (jx_up (jx_up (jx_up M1 36 1 (31 * M 36 1 + 3)) 36 1 (31 * (31 * M 36 1 + 3) + 2)) 36 1 (31 * (31 * (31 * M 36 1 + 3) + 2) + 1)) 36 1 (31 * (31 * (31 * (31 * M 36 1 + 3) + 2) + 1) + 1)) → jx_I (d + 20) mX8_tell [.ref 36, .int (nI p)] M1 q := by
      intro M1 e e0 q hq
      have hD1 := hD1 M1 e
      have g2 := fun d q => tq_isClap_y (d := d) (q := q) hr hD1 hp
      obtain ⟨k1, k2, k5⟩ := hD1.2.2.2.2.2 p hp
      have e1 := e 36 1 (by omega)
      have e2 : ∀ (N : jx_M) x, jx_up N 36 1 x 36 1 = x := fun N x => by simp [jx_upE]
      simp (disch := first | assumption | omega | decide) only [jx_qI_a, jx_qV_a, jx_qL_a, jn_lt, jn_le, jn_eq, jn_L, jn_A, jn_N, jn_LL, jn_add, jn_mul, jn_sub, jn_cl, jn_vin, jn_shl1, jn_shr, jn_or, jn_l_or0, jn_and1, jo_ltT, jo_ltF, jo_leT, jo_leF, jo_eqT, jo_eqF, true_or, or_true, true_and, and_true, false_or, or_false, false_and, and_false, if_true, if_false, not_true_eq_false, not_false_eq_true, jx_tab, kX8_tell, eX8_tell, g2, k1, k2, e0, tq_begins, e1, e2, hq]
    rcases (show s 3 p = 0 ∨ s 3 p = 1 ∨ s 3 p = 2 by omega) with e0 | e0 | e0
    · have g := fun d q => tp_clapBody (d := d) (q := q) ho hr e6 hC hp
      have hx : ∀ q : Int32 → jx_M → Prop, q (nI (s 4 p)) (jx_up M 0 8 (31 * M 0 8 + 1)) → jx_I (d + 20) mX7_tell [.ref 0, .int (nI p)] M q := by
        intro q hq
        simp (disch := first | assumption | omega | decide) only [jx_qI_a, jx_qV_a, jx_qL_a, jn_lt, jn_le, jn_eq, jn_L, jn_A, jn_N, jn_LL, jn_add, jn_mul, jn_sub, jn_cl, jn_vin, jn_shl1, jn_shr, jn_or, jn_l_or0, jn_and1, jo_ltT, jo_ltF, jo_leT, jo_leF, jo_eqT, jo_eqF, true_or, or_true, true_and, and_true, false_or, or_false, false_and, and_false, if_true, if_false, not_true_eq_false, not_false_eq_true, jx_tab, kX7_tell, eX7_tell, e6, g1, k1, z3, e0, g, hq]
      exact hx _ (hm0 _ (fun a b qa => by rw [jx_upE, if_neg (by omega)]) e0 _ ⟨rfl, tp_I_tr hJ (by simp [jx_upE, ht]) (fun a b q1 q2 => by simp only [jx_upE]; rw [if_neg q2, if_neg q1])⟩)
    · have g := fun d q => tp_dryBody (d := d) (q := q) ho hr e6 hC hp
      have hx : ∀ q : Int32 → jx_M → Prop, q (nI (s 4 p + 100)) (jx_up (jx_up M 0 8 (31 * M 0 8 + 2)) 0 8 (31 * (31 * M 0 8 + 2) + 1)) → jx_I (d + 20) mX7_tell [.ref 0, .int (nI p)] M q := by
        intro q hq
        simp (disch := first | assumption | omega | decide) only [jx_qI_a, jx_qV_a, jx_qL_a, jn_lt, jn_le, jn_eq, jn_L, jn_A, jn_N, jn_LL, jn_add, jn_mul, jn_sub, jn_cl, jn_vin, jn_shl1, jn_shr, jn_or, jn_l_or0, jn_and1, jo_ltT, jo_ltF, jo_leT, jo_leF, jo_eqT, jo_eqF, true_or, or_true, true_and, and_true, false_or, or_false, false_and, and_false, if_true, if_false, not_true_eq_false, not_false_eq_true, jx_tab, kX7_tell, eX7_tell, e6, g1, k1, z3, e0, g, hq]
      exact hx _ (hm1 _ (fun a b qa => by simp only [jx_upE]; rw [if_neg (by omega), if_neg (by omega)]) e0 _ ⟨rfl, tp_I_tr hJ (by simp [jx_upE, ht]) (fun a b q1 q2 => by simp only [jx_upE]; rw [if_neg q2, if_neg q2, if_neg q1, if_neg q1])⟩)
    · have k6 : jx_rv (jx_up M 0 8 (31 * M 0 8 + 3) 0 6) = .ref o := by rw [jx_upE, if_neg (by omega)]; exact e6
      have hC1 : tp_C (jx_up M 0 8 (31 * M 0 8 + 3)) o s := tp_C_fr hC (fun a b q1 q2 => by rw [jx_upE, if_neg (by omega)])
      have g := fun d q => tp_dryBody (d := d) (q := q) ho hr k6 hC1 hp
      have e8 : ∀ (N : jx_M) x, jx_up N 0 8 x 0 8 = x := fun N x => by simp [jx_upE]
      rw [e8] at g
      have k7 : ∀ x y, jx_rv (jx_up (jx_up (jx_up M 0 8 (31 * M 0 8 + 3)) 0 8 x) 0 8 y 0 6) = .ref o := fun x y => by simp only [jx_upE]; rw [if_neg (by omega), if_neg (by omega), if_neg (by omega)]; exact e6
      have hC2 : ∀ x y, tp_C (jx_up (jx_up (jx_up M 0 8 (31 * M 0 8 + 3)) 0 8 x) 0 8 y) o s := fun x y => tp_C_fr hC (fun a b q1 q2 => by simp only [jx_upE]; rw [if_neg (by omega), if_neg (by omega), if_neg (by omega)])
      have gg := fun x y d q => tp_clapBody (d := d) (q := q) ho hr (k7 x y) (hC2 x y) hp
      have hx : ∀ q : Int32 → jx_M → Prop, q (nI (2 * s 4 p + 100)) (jx_up (jx_up (jx_up (jx_up M 0 8 (31 * M 0 8 + 3)) 0 8 (31 * (31 * M 0 8 + 3) + 2)) 0 8 (31 * (31 * (31 * M 0 8 + 3) + 2) + 1)) 0 8 (31 * (31 * (31 * (31 * M 0 8 + 3) + 2) + 1) + 1)) → jx_I (d + 20) mX7_tell [.ref 0, .int (nI p)] M q := by
        intro q hq
        have ee : s 4 p + 100 + s 4 p = 2 * s 4 p + 100 := by omega
        simp (disch := first | assumption | omega | decide) only [jx_qI_a, jx_qV_a, jx_qL_a, jn_lt, jn_le, jn_eq, jn_L, jn_A, jn_N, jn_LL, jn_add, jn_mul, jn_sub, jn_cl, jn_vin, jn_shl1, jn_shr, jn_or, jn_l_or0, jn_and1, jo_ltT, jo_ltF, jo_leT, jo_leF, jo_eqT, jo_eqF, true_or, or_true, true_and, and_true, false_or, or_false, false_and, and_false, if_true, if_false, not_true_eq_false, not_false_eq_true, jx_tab, kX7_tell, eX7_tell, e6, g1, k1, z3, e0, kX7_boomingBody, eX7_boomingBody, tp_leave, e8, g, gg, ee, hq]
      exact hx _ (hm2 _ (fun a b qa => by simp only [jx_upE]; rw [if_neg (by omega), if_neg (by omega), if_neg (by omega), if_neg (by omega)]) e0 _ ⟨rfl, tp_I_tr hJ (by simp [jx_upE, ht]) (fun a b q1 q2 => by simp only [jx_upE]; rw [if_neg q2, if_neg q2, if_neg q2, if_neg q2, if_neg q1, if_neg q1, if_neg q1, if_neg q1])⟩)
end TPO3
