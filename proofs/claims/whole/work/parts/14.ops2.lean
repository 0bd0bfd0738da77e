/-! calls that change office, trace, readings -/
section TPU
variable {M : jx_M} {s : tp_S} {o p v : Nat}
theorem tp_rg_n (h : tp_rg s) (hv : v ≤ 9) : tp_rg (tp_su s 1 p v) := by
  obtain ⟨r1, r2, r3, r4, r5, r6⟩ := h
  refine ⟨r1, r2, r3, r4, fun a ha => ⟨?_, (r5 a ha).2⟩, fun c hc => r6 c hc⟩
  by_cases e : a = p
  · simp [tp_su, e, hv]
  · simp [tp_su, e]; exact (r5 a ha).1
theorem tp_rg_d (h : tp_rg s) (hv : v ≤ 3) : tp_rg (tp_su s 0 2 v) := by
  obtain ⟨r1, r2, r3, r4, r5, r6⟩ := h
  exact ⟨r1, r2, by simp [tp_su, hv], r4, fun a ha => r5 a ha, fun c hc => r6 c hc⟩
theorem tp_rg_a (h : tp_rg s) (hv : v < s 0 0) : tp_rg (tp_su s 5 p v) := by
  obtain ⟨r1, r2, r3, r4, r5, r6⟩ := h
  refine ⟨r1, r2, r3, r4, fun a ha => r5 a ha, fun c hc => ⟨(r6 c hc).1, (r6 c hc).2.1, (r6 c hc).2.2.1, ?_⟩⟩
  by_cases e : c = p
  · simp [tp_su, e, hv]
  · simp [tp_su, e]; exact (r6 c hc).2.2.2
theorem tp_C_n (h : tp_C M o s) : tp_C (jx_up M (o + 1) p (nI v)) o (tp_su s 1 p v) := by
  obtain ⟨c1, c2, c3, c4, c5, c6⟩ := h
  refine ⟨by simp [jx_upE, tp_su, c1], by simp [jx_upE, tp_su, c2], by simp [jx_upE, tp_su, c3], by simp [jx_upE, tp_su, c4], fun a ha => ⟨?_, by simp [jx_upE, tp_su, (c5 a ha).2]⟩, fun c hc => ⟨by simp [jx_upE, tp_su, (c6 c hc).1], by simp [jx_upE, tp_su, (c6 c hc).2.1], by simp [jx_upE, tp_su, (c6 c hc).2.2]⟩⟩
  by_cases e : a = p
  · simp [jx_upE, tp_su, e]
  · simp [jx_upE, tp_su, e]; exact (c5 a ha).1
theorem tp_D_n (h : tp_D M s) : tp_D (jx_up M 40 p (nI v)) (tp_su s 1 p v) := by
  obtain ⟨c1, c2, c3, c4, c5, c6⟩ := h
  refine ⟨by simp [jx_upE, tp_su, c1], by simp [jx_upE, tp_su, c2], by simp [jx_upE, tp_su, c3], by simp [jx_upE, tp_su, c4], fun a ha => ⟨?_, by simp [jx_upE, tp_su, (c5 a ha).2]⟩, fun c hc => ⟨by simp [jx_upE, tp_su, (c6 c hc).1], by simp [jx_upE, tp_su, (c6 c hc).2.1], by simp [jx_upE, tp_su, (c6 c hc).2.2]⟩⟩
  by_cases e : a = p
  · simp [jx_upE, tp_su, e]
  · simp [jx_upE, tp_su, e]; exact (c5 a ha).1
theorem tp_C_a (h : tp_C M o s) : tp_C (jx_up M (o + 5) p (nI v)) o (tp_su s 5 p v) := by
  obtain ⟨c1, c2, c3, c4, c5, c6⟩ := h
  refine ⟨by simp [jx_upE, tp_su, c1], by simp [jx_upE, tp_su, c2], by simp [jx_upE, tp_su, c3], by simp [jx_upE, tp_su, c4], fun a ha => ⟨by simp [jx_upE, tp_su, (c5 a ha).1], by simp [jx_upE, tp_su, (c5 a ha).2]⟩, fun c hc => ⟨by simp [jx_upE, tp_su, (c6 c hc).1], by simp [jx_upE, tp_su, (c6 c hc).2.1], ?_⟩⟩
  by_cases e : c = p
  · simp [jx_upE, tp_su, e]
  · simp [jx_upE, tp_su, e]; exact (c6 c hc).2.2
theorem tp_D_a (h : tp_D M s) : tp_D (jx_up M 44 p (nI v)) (tp_su s 5 p v) := by
  obtain ⟨c1, c2, c3, c4, c5, c6⟩ := h
  refine ⟨by simp [jx_upE, tp_su, c1], by simp [jx_upE, tp_su, c2], by simp [jx_upE, tp_su, c3], by simp [jx_upE, tp_su, c4], fun a ha => ⟨by simp [jx_upE, tp_su, (c5 a ha).1], by simp [jx_upE, tp_su, (c5 a ha).2]⟩, fun c hc => ⟨by simp [jx_upE, tp_su, (c6 c hc).1], by simp [jx_upE, tp_su, (c6 c hc).2.1], ?_⟩⟩
  by_cases e : c = p
  · simp [jx_upE, tp_su, e]
  · simp [jx_upE, tp_su, e]; exact (c6 c hc).2.2
theorem tp_C_d (h : tp_C M o s) : tp_C (jx_up M o 7 (nI v)) o (tp_su s 0 2 v) := by
  obtain ⟨c1, c2, c3, c4, c5, c6⟩ := h
  exact ⟨by simp [jx_upE, tp_su, c1], by simp [jx_upE, tp_su, c2], by simp [jx_upE, tp_su], by simp [jx_upE, tp_su, c4], fun a ha => ⟨by simp [jx_upE, tp_su, (c5 a ha).1], by simp [jx_upE, tp_su, (c5 a ha).2]⟩, fun c hc => ⟨by simp [jx_upE, tp_su, (c6 c hc).1], by simp [jx_upE, tp_su, (c6 c hc).2.1], by simp [jx_upE, tp_su, (c6 c hc).2.2]⟩⟩
theorem tp_D_d (h : tp_D M s) : tp_D (jx_up M 36 7 (nI v)) (tp_su s 0 2 v) := by
  obtain ⟨c1, c2, c3, c4, c5, c6⟩ := h
  exact ⟨by simp [jx_upE, tp_su, c1], by simp [jx_upE, tp_su, c2], by simp [jx_upE, tp_su], by simp [jx_upE, tp_su, c4], fun a ha => ⟨by simp [jx_upE, tp_su, (c5 a ha).1], by simp [jx_upE, tp_su, (c5 a ha).2]⟩, fun c hc => ⟨by simp [jx_upE, tp_su, (c6 c hc).1], by simp [jx_upE, tp_su, (c6 c hc).2.1], by simp [jx_upE, tp_su, (c6 c hc).2.2]⟩⟩
end TPU
section TPO2
variable {d : Nat} {M : jx_M}
theorem op_nerve (h : tp_I M) (a b : Int32) : jx_I (d + 20) mX7_nerve [.ref 0, .int a, .int b] M (fun r M1 => jx_I (d + 20) mX8_nerve [.ref 36, .int a, .int b] M1 (fun r2 M2 => r = r2 ∧ tp_I M2)) := by
  have hI := h
  obtain ⟨s, o, ho, h06, h07, hr, hC, hD, hf, ht, hrd, hsh⟩ := h
  have e6 : jx_rv (M 0 6) = .ref o := by rw [h06]; exact tp_rvn (by rcases ho with rfl | rfl <;> decide)
  have hoo : o = 16 ∨ o = 22 := ho
  obtain ⟨o0, o1, o2, o3, o4, o5, z1, z2, z3, z4, z5⟩ := tp_Ot ho
  obtain ⟨r1, r2, r3, r4, r5, r6⟩ := id hr
  rcases jx_ix a (n := s 0 0) (by omega) with hn | ⟨p, hp, rfl⟩
  · have g1 := fun d q => tp_hasPerson_n (d := d) (q := q) ho hr hC hn
    have g2 := fun d q => tq_isPerson_n (d := d) (q := q) hr hD hn
    simp (disch := first | assumption | omega | decide) only [jx_qI_a, jx_qV_a, jx_qL_a, jn_LL, true_or, or_true, true_and, and_true, false_or, or_false, false_and, and_false, if_true, if_false, not_true_eq_false, not_false_eq_true, jx_tab, kX7_nerve, eX7_nerve, e6, g1, kX8_nerve, eX8_nerve, g2, hI]
  · have g1 := fun d q => tp_hasPerson_y (d := d) (q := q) ho hr hC hp
    have g2 := fun M d q hD => tq_isPerson_y (M := M) (d := d) (q := q) hr hD hp
    obtain ⟨k1, k2⟩ := hC.2.2.2.2.1 p hp
    obtain ⟨k3, k4⟩ := hD.2.2.2.2.1 p hp
    rcases jx_ix b (n := 10) (by omega) with hn | ⟨v, hv, rfl⟩
    · have e : (9 : Int32) < b ↔ nI 10 ≤ b := (jn_ge (n := 9) (by decide)).symm
      have g2 := fun d q => g2 M d q hD
      by_cases hb : b < 0
      · simp (disch := first | assumption | omega | decide) only [jx_qI_a, jx_qV_a, jx_qL_a, jn_LL, true_or, or_true, true_and, and_true, false_or, or_false, false_and, and_false, if_true, if_false, not_true_eq_false, not_false_eq_true, jx_tab, kX7_nerve, eX7_nerve, e6, g1, kX8_nerve, eX8_nerve, g2, hI, hb, tq_within]
      · have hb2 := hn.resolve_left hb
        have hb3 : ¬ b ≤ 9 := jn_nle (n := 9) (by decide) hb2
        simp (disch := first | assumption | omega | decide) only [jx_qI_a, jx_qV_a, jx_qL_a, jn_LL, true_or, or_true, true_and, and_true, false_or, or_false, false_and, and_false, if_true, if_false, not_true_eq_false, not_false_eq_true, jx_tab, kX7_nerve, eX7_nerve, e6, g1, kX8_nerve, eX8_nerve, g2, hI, hb, e, hb2, hb3, tq_within]
    · have hx : ∀ q : Int32 → jx_M → Prop, q (nI (s 1 p)) (jx_up M (o + 1) p (nI v)) → jx_I (d + 20) mX7_nerve [.ref 0, .int (nI p), .int (nI v)] M q := by
        intro q hq
        simp (disch := first | assumption | omega | decide) only [jx_qI_a, jx_qV_a, jx_qL_a, jn_lt, jn_le, jn_eq, jn_L, jn_A, jn_N, jn_LL, jn_add, jn_mul, jn_sub, jn_cl, jn_vin, jn_shl1, jn_shr, jn_or, jn_l_or0, jn_and1, jo_ltT, jo_ltF, jo_leT, jo_leF, jo_eqT, jo_eqF, true_or, or_true, true_and, and_true, false_or, or_false, false_and, and_false, if_true, if_false, not_true_eq_false, not_false_eq_true, jx_tab, kX7_nerve, eX7_nerve, e6, g1, k1, z1, hq]
      have hD1 : tp_D (jx_up M (o + 1) p (nI v)) s := tp_D_fr hD (fun b q1 q2 => by rw [jx_upE, if_neg (by omega)]) (fun a b q1 q2 => by rw [jx_upE, if_neg (by omega)])
      have hm : ∀ q : Int32 → jx_M → Prop, q (nI (s 1 p)) (jx_up (jx_up M (o + 1) p (nI v)) 40 p (nI v)) → jx_I (d + 20) mX8_nerve [.ref 36, .int (nI p), .int (nI v)] (jx_up M (o + 1) p (nI v)) q := by
        intro q hq
        have g2 := fun d q => g2 _ d q hD1
        simp (disch := first | assumption | omega | decide) only [jx_qI_a, jx_qV_a, jx_qL_a, jn_lt, jn_le, jn_eq, jn_L, jn_A, jn_N, jn_LL, jn_add, jn_mul, jn_sub, jn_cl, jn_vin, jn_shl1, jn_shr, jn_or, jn_l_or0, jn_and1, jo_ltT, jo_ltF, jo_leT, jo_leF, jo_eqT, jo_eqF, true_or, or_true, true_and, and_true, false_or, or_false, false_and, and_false, if_true, if_false, not_true_eq_false, not_false_eq_true, jx_tab, kX8_nerve, eX8_nerve, g2, tq_within, (hD1.2.2.2.2.1 p hp).1, hq]
      refine hx _ (hm _ ⟨rfl, tp_su s 1 p v, o, ho, ?_, ?_, tp_rg_n hr (by omega), tp_C_fr (tp_C_n hC) (fun a b q1 q2 => by rw [jx_upE, if_neg (by omega)]), tp_D_n hD1, ?_, ?_, ?_, ?_⟩)
      · rw [jx_upE, if_neg (by omega), jx_upE, if_neg (by omega)]; exact h06
      · rw [jx_upE, if_neg (by omega), jx_upE, if_neg (by omega)]; exact h07
      · simp only [jx_upE]; rw [if_neg (by omega), if_neg (by omega), if_neg (by omega), if_neg (by omega)]; exact hf
      · simp only [jx_upE]; rw [if_neg (by omega), if_neg (by omega), if_neg (by omega), if_neg (by omega)]; exact ht
      · exact tp_rd_fr (s := tp_su s 1 p v) (M := M) hrd (fun a b q1 q2 => by rw [jx_upE, if_neg (by omega), jx_upE, if_neg (by omega)]) (by rw [jx_upE, if_neg (by omega), jx_upE, if_neg (by omega)]) (fun a b q1 q2 => by rw [jx_upE, if_neg (by omega), jx_upE, if_neg (by omega)])
      · exact tp_sh_fr hsh (fun a b q1 q2 q3 => by rw [jx_upE, if_neg (by omega), jx_upE, if_neg (by omega)])
theorem op_damp (h : tp_I M) (b : Int32) : jx_I (d + 20) mX7_damp [.ref 0, .int b] M (fun r M1 => jx_I (d + 20) mX8_damp [.ref 36, .int b] M1 (fun r2 M2 => r = r2 ∧ tp_I M2)) := by
  have hI := h
  obtain ⟨s, o, ho, h06, h07, hr, hC, hD, hf, ht, hrd, hsh⟩ := h
  have e6 : jx_rv (M 0 6) = .ref o := by rw [h06]; exact tp_rvn (by rcases ho with rfl | rfl <;> decide)
  have hoo : o = 16 ∨ o = 22 := ho
  obtain ⟨o0, o1, o2, o3, o4, o5, z1, z2, z3, z4, z5⟩ := tp_Ot ho
  obtain ⟨r1, r2, r3, r4, r5, r6⟩ := id hr
  have g1 := fun d q => tp_stands (d := d) (q := q) ho hr hC
  rcases jx_ix b (n := 4) (by omega) with hn | ⟨v, hv, rfl⟩
  · have e : (3 : Int32) < b ↔ nI 4 ≤ b := (jn_ge (n := 3) (by decide)).symm
    by_cases hb : b < 0
    · simp (disch := first | assumption | omega | decide) only [jx_qI_a, jx_qV_a, jx_qL_a, jn_LL, true_or, or_true, true_and, and_true, false_or, or_false, false_and, and_false, if_true, if_false, not_true_eq_false, not_false_eq_true, jx_tab, kX7_damp, eX7_damp, e6, g1, kX8_damp, eX8_damp, hI, hb, tq_within]
    · have hb2 := hn.resolve_left hb
      have hb3 : ¬ b ≤ 3 := jn_nle (n := 3) (by decide) hb2
      simp (disch := first | assumption | omega | decide) only [jx_qI_a, jx_qV_a, jx_qL_a, jn_LL, true_or, or_true, true_and, and_true, false_or, or_false, false_and, and_false, if_true, if_false, not_true_eq_false, not_false_eq_true, jx_tab, hb3, kX7_damp, eX7_damp, e6, g1, kX8_damp, eX8_damp, hI, hb, e, hb2, tq_within]
  · by_cases hs : 0 < s 0 1
    · have hx : ∀ q : Int32 → jx_M → Prop, q (nI (s 0 2)) (jx_up M o 7 (nI v)) → jx_I (d + 20) mX7_damp [.ref 0, .int (nI v)] M q := by
        intro q hq
        simp (disch := first | assumption | omega | decide) only [jx_qI_a, jx_qV_a, jx_qL_a, jn_lt, jn_le, jn_eq, jn_L, jn_A, jn_N, jn_LL, jn_add, jn_mul, jn_sub, jn_cl, jn_vin, jn_shl1, jn_shr, jn_or, jn_l_or0, jn_and1, jo_ltT, jo_ltF, jo_leT, jo_leF, jo_eqT, jo_eqF, true_or, or_true, true_and, and_true, false_or, or_false, false_and, and_false, if_true, if_false, not_true_eq_false, not_false_eq_true, jx_tab, kX7_damp, eX7_damp, e6, g1, hC.2.2.1, hq]
      have hD1 : tp_D (jx_up M o 7 (nI v)) s := tp_D_fr hD (fun b q1 q2 => by rw [jx_upE, if_neg (by omega)]) (fun a b q1 q2 => by rw [jx_upE, if_neg (by omega)])
      have hm : ∀ q : Int32 → jx_M → Prop, q (nI (s 0 2)) (jx_up (jx_up M o 7 (nI v)) 36 7 (nI v)) → jx_I (d + 20) mX8_damp [.ref 36, .int (nI v)] (jx_up M o 7 (nI v)) q := by
        intro q hq
        simp (disch := first | assumption | omega | decide) only [jx_qI_a, jx_qV_a, jx_qL_a, jn_lt, jn_le, jn_eq, jn_L, jn_A, jn_N, jn_LL, jn_add, jn_mul, jn_sub, jn_cl, jn_vin, jn_shl1, jn_shr, jn_or, jn_l_or0, jn_and1, jo_ltT, jo_ltF, jo_leT, jo_leF, jo_eqT, jo_eqF, true_or, or_true, true_and, and_true, false_or, or_false, false_and, and_false, if_true, if_false, not_true_eq_false, not_false_eq_true, jx_tab, kX8_damp, eX8_damp, tq_within, hD1.2.1, hD1.2.2.1, hq]
      refine hx _ (hm _ ⟨rfl, tp_su s 0 2 v, o, ho, ?_, ?_, tp_rg_d hr (by omega), tp_C_fr (tp_C_d hC) (fun a b q1 q2 => by rw [jx_upE, if_neg (by omega)]), tp_D_d hD1, ?_, ?_, ?_, ?_⟩)
      · rw [jx_upE, if_neg (by omega), jx_upE, if_neg (by omega)]; exact h06
      · rw [jx_upE, if_neg (by omega), jx_upE, if_neg (by omega)]; exact h07
      · simp only [jx_upE]; rw [if_neg (by omega), if_neg (by omega), if_neg (by omega), if_neg (by omega)]; exact hf
      · simp only [jx_upE]; rw [if_neg (by omega), if_neg (by omega), if_neg (by omega), if_neg (by omega)]; exact ht
      · exact tp_rd_fr (s := tp_su s 0 2 v) (M := M) hrd (fun a b q1 q2 => by rw [jx_upE, if_neg (by omega), jx_upE, if_neg (by omega)]) (by rw [jx_upE, if_neg (by omega), jx_upE, if_neg (by omega)]) (fun a b q1 q2 => by rw [jx_upE, if_neg (by omega), jx_upE, if_neg (by omega)])
      · exact tp_sh_fr hsh (fun a b q1 q2 q3 => by rw [jx_upE, if_neg (by omega), jx_upE, if_neg (by omega)])
    · simp (disch := first | assumption | omega | decide) only [jx_qI_a, jx_qV_a, jx_qL_a, jn_lt, jn_le, jn_eq, jn_L, jn_A, jn_N, jn_LL, jn_add, jn_mul, jn_sub, jn_cl, jn_vin, jn_shl1, jn_shr, jn_or, jn_l_or0, jn_and1, jo_ltT, jo_ltF, jo_leT, jo_leF, jo_eqT, jo_eqF, true_or, or_true, true_and, and_true, false_or, or_false, false_and, and_false, if_true, if_false, not_true_eq_false, not_false_eq_true, jx_tab, kX7_damp, eX7_damp, e6, g1, kX8_damp, eX8_damp, hI, tq_within, hD.2.1]
theorem op_send (h : tp_I M) (a b : Int32) : jx_I (d + 20) mX7_send [.ref 0, .int a, .int b] M (fun r M1 => jx_I (d + 20) mX8_send [.ref 36, .int a, .int b] M1 (fun r2 M2 => r = r2 ∧ tp_I M2)) := by
  have hI := h
  obtain ⟨s, o, ho, h06, h07, hr, hC, hD, hf, ht, hrd, hsh⟩ := h
  have e6 : jx_rv (M 0 6) = .ref o := by rw [h06]; exact tp_rvn (by rcases ho with rfl | rfl <;> decide)
  have hoo : o = 16 ∨ o = 22 := ho
  obtain ⟨o0, o1, o2, o3, o4, o5, z1, z2, z3, z4, z5⟩ := tp_Ot ho
  obtain ⟨r1, r2, r3, r4, r5, r6⟩ := id hr
  rcases jx_ix a (n := s 0 1) (by omega) with hn | ⟨p, hp, rfl⟩
  · have g1 := fun d q => tp_hasClap_n (d := d) (q := q) ho hr hC hn
    have g2 := fun d q => tq_isClap_n (d := d) (q := q) hr hD hn
    simp (disch := first | assumption | omega | decide) only [jx_qI_a, jx_qV_a, jx_qL_a, jn_LL, true_or, or_true, true_and, and_true, false_or, or_false, false_and, and_false, if_true, if_false, not_true_eq_false, not_false_eq_true, jx_tab, kX7_send, eX7_send, e6, g1, kX8_send, eX8_send, g2, hI]
  · have g1 := fun d q => tp_hasClap_y (d := d) (q := q) ho hr hC hp
    have g2 := fun M d q hD => tq_isClap_y (M := M) (d := d) (q := q) hr hD hp
    obtain ⟨k1, k2, k5⟩ := hC.2.2.2.2.2 p hp
    rcases jx_ix b (n := s 0 0) (by omega) with hn | ⟨v, hv, rfl⟩
    · have g2 := fun d q => g2 M d q hD
      have g3 := fun d q => tp_hasPerson_n (d := d) (q := q) ho hr hC hn
      have g4 := fun d q => tq_isPerson_n (d := d) (q := q) hr hD hn
      simp (disch := first | assumption | omega | decide) only [jx_qI_a, jx_qV_a, jx_qL_a, jn_LL, true_or, or_true, true_and, and_true, false_or, or_false, false_and, and_false, if_true, if_false, not_true_eq_false, not_false_eq_true, jx_tab, kX7_send, eX7_send, e6, g1, g3, g4, kX8_send, eX8_send, g2, hI]
    · have g3 := fun d q => tp_hasPerson_y (d := d) (q := q) ho hr hC hv
      have g4 := fun M d q hD => tq_isPerson_y (M := M) (d := d) (q := q) hr hD hv
      have hx : ∀ q : Int32 → jx_M → Prop, q (nI (s 5 p)) (jx_up M (o + 5) p (nI v)) → jx_I (d + 20) mX7_send [.ref 0, .int (nI p), .int (nI v)] M q := by
        intro q hq
        simp (disch := first | assumption | omega | decide) only [jx_qI_a, jx_qV_a, jx_qL_a, jn_lt, jn_le, jn_eq, jn_L, jn_A, jn_N, jn_LL, jn_add, jn_mul, jn_sub, jn_cl, jn_vin, jn_shl1, jn_shr, jn_or, jn_l_or0, jn_and1, jo_ltT, jo_ltF, jo_leT, jo_leF, jo_eqT, jo_eqF, true_or, or_true, true_and, and_true, false_or, or_false, false_and, and_false, if_true, if_false, not_true_eq_false, not_false_eq_true, jx_tab, kX7_send, eX7_send, e6, g1, g3, k5, z5, hq]
      have hD1 : tp_D (jx_up M (o + 5) p (nI v)) s := tp_D_fr hD (fun b q1 q2 => by rw [jx_upE, if_neg (by omega)]) (fun a b q1 q2 => by rw [jx_upE, if_neg (by omega)])
      have hm : ∀ q : Int32 → jx_M → Prop, q (nI (s 5 p)) (jx_up (jx_up M (o + 5) p (nI v)) 44 p (nI v)) → jx_I (d + 20) mX8_send [.ref 36, .int (nI p), .int (nI v)] (jx_up M (o + 5) p (nI v)) q := by
        intro q hq
        have g2 := fun d q => g2 _ d q hD1
        have g4 := fun d q => g4 _ d q hD1
        simp (disch := first | assumption | omega | decide) only [jx_qI_a, jx_qV_a, jx_qL_a, jn_lt, jn_le, jn_eq, jn_L, jn_A, jn_N, jn_LL, jn_add, jn_mul, jn_sub, jn_cl, jn_vin, jn_shl1, jn_shr, jn_or, jn_l_or0, jn_and1, jo_ltT, jo_ltF, jo_leT, jo_leF, jo_eqT, jo_eqF, true_or, or_true, true_and, and_true, false_or, or_false, false_and, and_false, if_true, if_false, not_true_eq_false, not_false_eq_true, jx_tab, kX8_send, eX8_send, g2, g4, (hD1.2.2.2.2.2 p hp).2.2, hq]
      refine hx _ (hm _ ⟨rfl, tp_su s 5 p v, o, ho, ?_, ?_, tp_rg_a hr hv, tp_C_fr (tp_C_a hC) (fun a b q1 q2 => by rw [jx_upE, if_neg (by omega)]), tp_D_a hD1, ?_, ?_, ?_, ?_⟩)
      · rw [jx_upE, if_neg (by omega), jx_upE, if_neg (by omega)]; exact h06
      · rw [jx_upE, if_neg (by omega), jx_upE, if_neg (by omega)]; exact h07
      · simp only [jx_upE]; rw [if_neg (by omega), if_neg (by omega), if_neg (by omega), if_neg (by omega)]; exact hf
      · simp only [jx_upE]; rw [if_neg (by omega), if_neg (by omega), if_neg (by omega), if_neg (by omega)]; exact ht
      · exact tp_rd_fr (s := tp_su s 5 p v) (M := M) hrd (fun a b q1 q2 => by rw [jx_upE, if_neg (by omega), jx_upE, if_neg (by omega)]) (by rw [jx_upE, if_neg (by omega), jx_upE, if_neg (by omega)]) (fun a b q1 q2 => by rw [jx_upE, if_neg (by omega), jx_upE, if_neg (by omega)])
      · exact tp_sh_fr hsh (fun a b q1 q2 q3 => by rw [jx_upE, if_neg (by omega), jx_upE, if_neg (by omega)])
end TPO2
