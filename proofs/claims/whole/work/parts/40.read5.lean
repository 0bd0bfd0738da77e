/-! office: firstFault -/
section TF5
variable {d t i n D len : Nat} {v : Nat → Int32} {M : jx_M}
theorem tf_head (ht : tf_t t i n D len) (hc : tf_c M t i n D v len 0) (h5 : M D 5 = 0) (h6 : M D 6 = 0) {q : Int32 → jx_M → Prop}
    (k0 : ¬ tf_K v n 0 = 116 → q 0 M)
    (k1 : ∀ M', tf_K v n 0 = 116 → tf_dg v n 1 0 3 = none → tf_fr D M' M → M' 2 4 = nI 1 → q 0 M')
    (k2 : ∀ x M', tf_K v n 0 = 116 → tf_dg v n 1 0 3 = some x → tf_dg v n 2 0 9 = none → tf_fr D M' M → M' 2 4 = nI 2 → q 0 M')
    (k3 : ∀ x y M', tf_K v n 0 = 116 → tf_dg v n 1 0 3 = some x → tf_dg v n 2 0 9 = some y → tf_fr D M' M → tf_c M' t i n D v len 3 → tp_C M' D (tf_s0 x y) → q 1 M') : jx_I (d + 3) mX6_readsHead [.ref 2] M q := by
  have ho : tp_O D := ht.2.2.2.2.2.2.2
  have hD : D = 16 ∨ D = 22 := ho
  obtain ⟨o0, o1, o2, o3, o4, o5, z1, z2, z3, z4, z5⟩ := tp_Ot ho
  have n0 : (0 : Int32) = nI 0 := fa_lit 0
  have n9 : (9 : Int32) = nI 9 := fa_lit 9
  have n3 : (3 : Int32) = nI 3 := fa_lit 3
  have e1 := tf_c_rv ht hc
  have neg9 : ¬ (0 : Int32) ≤ -9 := by decide
  have neg9' : (-9 : Int32) < 0 := by decide
  have g := fun d q => tf_takes (d := d) (q := q) ht hc (by omega) 116
  by_cases hk : tf_K v n 0 = 116
  · simp only [hk, if_true] at g
    have hc1 := tf_c_at ht hc (0 + 1)
    have e2 := tf_c_rv ht hc1
    rcases hd : tf_dg v n (0 + 1) 0 3 with _ | x
    · have g2 := fun d q => tf_digit_n (d := d) (q := q) ht hc1 (by omega) (by decide) (by decide) hd
      rw [← n0, ← n3] at g2
      have hc2 := tf_c_D (x := D) (y := 7) (z := -9) ht hc1 (by omega)
      have e3 := tf_c_rv ht hc2
      have e4 := jx_upS (jx_up M 2 4 (nI (0 + 1))) D 7 (-9)
      have hq := k1 (jx_up (jx_up M 2 4 (nI (0 + 1))) D 7 (-9)) hk hd ((tf_fr_D (by omega)).trans tf_fr_at) hc2.2.2.2.2.1
      simp (disch := first | assumption | omega | decide) only [jx_qI_a, jx_qV_a, jx_qL_a, jn_lt, jn_le, jn_eq, jn_L, jn_A, jn_N, jn_LL, jn_add, jn_mul, jn_sub, jn_cl, jn_vin, jn_shl1, jn_shr, jn_or, jn_l_or0, jn_and1, jo_ltT, jo_ltF, jo_leT, jo_leF, jo_eqT, jo_eqF, true_or, or_true, true_and, and_true, false_or, or_false, false_and, and_false, if_true, if_false, not_true_eq_false, not_false_eq_true, jx_tab, kX6_readsHead, eX6_readsHead, e1, e2, e3, e4, g, g2, neg9, hq]
    · have g2 := fun d q => tf_digit_y (d := d) (q := q) ht hc1 (by omega) (by decide) (by decide) hd
      rw [← n0, ← n3] at g2
      obtain ⟨-, -, hx, -⟩ := tf_dg_y (by decide) (by decide) hd
      obtain ⟨w1, w2⟩ := tf_nn (show x ≤ 9 by omega)
      have hc2 := tf_c_D (x := D) (y := 7) (z := nI x) ht (tf_c_at ht hc1 (0 + 1 + 1)) (by omega)
      have e3 := tf_c_rv ht hc2
      have e4 := jx_upS (jx_up (jx_up M 2 4 (nI (0 + 1))) 2 4 (nI (0 + 1 + 1))) D 7 (nI x)
      have fr : tf_fr D (jx_up (jx_up (jx_up M 2 4 (nI (0 + 1))) 2 4 (nI (0 + 1 + 1))) D 7 (nI x)) M := ((tf_fr_D (by omega)).trans tf_fr_at).trans tf_fr_at
      rcases hd2 : tf_dg v n (0 + 1 + 1) 0 9 with _ | y
      · have g3 := fun d q => tf_digit_n (d := d) (q := q) ht hc2 (by omega) (by decide) (by decide) hd2
        rw [← n0, ← n9] at g3
        have hc3 := tf_c_D (x := D) (y := 8) (z := -9) ht hc2 (by omega)
        have e5 := tf_c_rv ht hc3
        have e6 := jx_upS (jx_up (jx_up (jx_up M 2 4 (nI (0 + 1))) 2 4 (nI (0 + 1 + 1))) D 7 (nI x)) D 8 (-9)
        have hq := k2 x (jx_up (jx_up (jx_up (jx_up M 2 4 (nI (0 + 1))) 2 4 (nI (0 + 1 + 1))) D 7 (nI x)) D 8 (-9)) hk hd hd2 ((tf_fr_D (by omega)).trans fr) hc3.2.2.2.2.1
        simp (disch := first | assumption | omega | decide) only [jx_qI_a, jx_qV_a, jx_qL_a, jn_lt, jn_le, jn_eq, jn_L, jn_A, jn_N, jn_LL, jn_add, jn_mul, jn_sub, jn_cl, jn_vin, jn_shl1, jn_shr, jn_or, jn_l_or0, jn_and1, jo_ltT, jo_ltF, jo_leT, jo_leF, jo_eqT, jo_eqF, true_or, or_true, true_and, and_true, false_or, or_false, false_and, and_false, if_true, if_false, not_true_eq_false, not_false_eq_true, jx_tab, kX6_readsHead, eX6_readsHead, e1, e2, e3, e4, e5, e6, g, g2, g3, w1, neg9', hq]
      · have g3 := fun d q => tf_digit_y (d := d) (q := q) ht hc2 (by omega) (by decide) (by decide) hd2
        rw [← n0, ← n9] at g3
        obtain ⟨-, -, hy, -⟩ := tf_dg_y (by decide) (by decide) hd2
        obtain ⟨w3, w4⟩ := tf_nn hy
        have hc3 := tf_c_D (x := D) (y := 8) (z := nI y) ht (tf_c_at ht hc2 (0 + 1 + 1 + 1)) (by omega)
        have e5 := tf_c_rv ht hc3
        have e6 := jx_upS (jx_up (jx_up (jx_up (jx_up M 2 4 (nI (0 + 1))) 2 4 (nI (0 + 1 + 1))) D 7 (nI x)) 2 4 (nI (0 + 1 + 1 + 1))) D 8 (nI y)
        have hq := k3 x y (jx_up (jx_up (jx_up (jx_up (jx_up M 2 4 (nI (0 + 1))) 2 4 (nI (0 + 1 + 1))) D 7 (nI x)) 2 4 (nI (0 + 1 + 1 + 1))) D 8 (nI y)) hk hd hd2 (((tf_fr_D (by omega)).trans tf_fr_at).trans fr) hc3 (by
          refine ⟨?_, ?_, ?_, ?_, fun p' hp' => ?_, fun c' hcc' => ?_⟩
          · rw [jx_upB (by decide), jx_upA (by omega), jx_upB (by decide), jx_upA (by omega), jx_upA (by omega), h5]; rfl
          · rw [jx_upB (by decide), jx_upA (by omega), jx_upB (by decide), jx_upA (by omega), jx_upA (by omega), h6]; rfl
          · rw [jx_upB (by decide), jx_upA (by omega), jx_upS]; rfl
          · rw [jx_upS]; rfl
          · simp [tf_s0] at hp'
          · simp [tf_s0] at hcc')
        simp (disch := first | assumption | omega | decide) only [jx_qI_a, jx_qV_a, jx_qL_a, jn_lt, jn_le, jn_eq, jn_L, jn_A, jn_N, jn_LL, jn_add, jn_mul, jn_sub, jn_cl, jn_vin, jn_shl1, jn_shr, jn_or, jn_l_or0, jn_and1, jo_ltT, jo_ltF, jo_leT, jo_leF, jo_eqT, jo_eqF, true_or, or_true, true_and, and_true, false_or, or_false, false_and, and_false, if_true, if_false, not_true_eq_false, not_false_eq_true, jx_tab, kX6_readsHead, eX6_readsHead, e1, e2, e3, e4, e5, e6, g, g2, g3, w1, w4, hq]
  · simp only [hk, if_false] at g
    have hq := k0 hk
    simp (disch := first | assumption | omega | decide) only [jx_qI_a, jx_qV_a, jx_qL_a, jn_lt, jn_le, jn_eq, jn_L, jn_A, jn_N, jn_LL, jn_add, jn_mul, jn_sub, jn_cl, jn_vin, jn_shl1, jn_shr, jn_or, jn_l_or0, jn_and1, jo_ltT, jo_ltF, jo_leT, jo_leF, jo_eqT, jo_eqF, true_or, or_true, true_and, and_true, false_or, or_false, false_and, and_false, if_true, if_false, not_true_eq_false, not_false_eq_true, jx_tab, kX6_readsHead, eX6_readsHead, g, hq]
/-- the rest of firstFault, from the parts on -/
theorem tf_first (ht : tf_t t i n D len) (hl : M t 2 = nI len) (hv : ∀ j, j < n → M (t + 1) (i + j) = v j) {q : Int32 → jx_M → Prop}
    (k1 : ∀ M' s a, tf_all v n = (some s, a) → tf_fr D M' M → tp_C M' D s → q (-9) M')
    (k0 : ∀ M' a, tf_all v n = (none, a) → tf_fr D M' M → q (nI a) M') : jx_I (d + 6) mX6_firstFault [.ref 2, .ref t, .int (nI i), .int (nI n), .ref D] M q := by
  have ho : tp_O D := ht.2.2.2.2.2.2.2
  have hD : D = 16 ∨ D = 22 := ho
  obtain ⟨t1, t2, t3, t4, t5, t6, t7, -⟩ := id ht
  obtain ⟨o0, o1, o2, o3, o4, o5, z1, z2, z3, z4, z5⟩ := tp_Ot ho
  have n0 : (0 : Int32) = nI 0 := fa_lit 0
  have eD : jx_rv (nI D) = .ref D := tp_rvn (by omega)
  have hc0 : tf_c (jx_up (jx_up (jx_up (jx_up (jx_up M 2 0 (nI t)) 2 1 (nI D)) 2 2 (nI i)) 2 3 (nI n)) 2 4 0) t i n D v len 0 := by
    refine ⟨?_, ?_, ?_, ?_, ?_, ?_, fun j hj => ?_⟩
    · rw [jx_upB (by decide), jx_upB (by decide), jx_upB (by decide), jx_upB (by decide), jx_upS]
    · rw [jx_upB (by decide), jx_upB (by decide), jx_upB (by decide), jx_upS]
    · rw [jx_upB (by decide), jx_upB (by decide), jx_upS]
    · rw [jx_upB (by decide), jx_upS]
    · rw [jx_upS]; rfl
    · rw [jx_upA (by omega), jx_upA (by omega), jx_upA (by omega), jx_upA (by omega), jx_upA (by omega)]; exact hl
    · rw [jx_upA (by omega), jx_upA (by omega), jx_upA (by omega), jx_upA (by omega), jx_upA (by omega)]; exact hv j hj
  have fr0 : tf_fr D (jx_up (jx_up (jx_up (jx_up (jx_up M 2 0 (nI t)) 2 1 (nI D)) 2 2 (nI i)) 2 3 (nI n)) 2 4 0) M := (((tf_fr_at.trans tf_fr_at).trans tf_fr_at).trans tf_fr_at).trans tf_fr_at
  have e1 := tf_c_rv ht hc0
  have hc1 := tf_c_D (x := D) (y := 5) (z := 0) ht hc0 (by omega)
  have e2 := tf_c_rv ht hc1
  have hc2 := tf_c_D (x := D) (y := 6) (z := 0) ht hc1 (by omega)
  have fr2 : tf_fr D (jx_up (jx_up (jx_up (jx_up (jx_up (jx_up (jx_up M 2 0 (nI t)) 2 1 (nI D)) 2 2 (nI i)) 2 3 (nI n)) 2 4 0) D 5 0) D 6 0) M := ((tf_fr_D (by omega)).trans (tf_fr_D (by omega))).trans fr0
  have x5 : jx_up (jx_up (jx_up (jx_up (jx_up (jx_up (jx_up M 2 0 (nI t)) 2 1 (nI D)) 2 2 (nI i)) 2 3 (nI n)) 2 4 0) D 5 0) D 6 0 D 5 = 0 := by rw [jx_upB (by decide), jx_upS]
  have x6 : jx_up (jx_up (jx_up (jx_up (jx_up (jx_up (jx_up M 2 0 (nI t)) 2 1 (nI D)) 2 2 (nI i)) 2 3 (nI n)) 2 4 0) D 5 0) D 6 0 D 6 = 0 := jx_upS _ _ _ _
  simp (disch := first | assumption | omega | decide) only [jx_qI_a, jx_qV_a, jx_qL_a, jn_lt, jn_le, jn_eq, jn_L, jn_A, jn_N, jn_LL, jn_add, jn_mul, jn_sub, jn_cl, jn_vin, jn_shl1, jn_shr, jn_or, jn_l_or0, jn_and1, jo_ltT, jo_ltF, jo_leT, jo_leF, jo_eqT, jo_eqF, true_or, or_true, true_and, and_true, false_or, or_false, false_and, and_false, if_true, if_false, not_true_eq_false, not_false_eq_true, jx_tab, kX6_firstFault, eX6_firstFault, e1, e2]
  generalize jx_up (jx_up (jx_up (jx_up (jx_up (jx_up (jx_up M 2 0 (nI t)) 2 1 (nI D)) 2 2 (nI i)) 2 3 (nI n)) 2 4 0) D 5 0) D 6 0 = N at hc2 fr2 x5 x6
  unfold tf_all at k1 k0
  refine tf_head (d := d + 2) ht hc2 x5 x6 (fun z => ?_) (fun M' z1 z2 f1 f2 => ?_) (fun x M' z1 z2 z3 f1 f2 => ?_) (fun x y M' z1 z2 z3 f1 f2 f3 => ?_)
  · rw [if_neg z] at k0
    have hq := k0 N 0 rfl fr2
    have c5 := hc2.2.2.2.2.1
    simp (disch := first | assumption | omega | decide) only [jx_qI_a, jx_qV_a, jx_qL_a, jn_lt, jn_le, jn_eq, jn_L, jn_A, jn_N, jn_LL, jn_add, jn_mul, jn_sub, jn_cl, jn_vin, jn_shl1, jn_shr, jn_or, jn_l_or0, jn_and1, jo_ltT, jo_ltF, jo_leT, jo_leF, jo_eqT, jo_eqF, true_or, or_true, true_and, and_true, false_or, or_false, false_and, and_false, if_true, if_false, not_true_eq_false, not_false_eq_true, jx_tab, eX6_firstFault, c5, hq]
  · rw [if_pos z1, z2] at k0
    have hq := k0 M' 1 rfl (f1.trans fr2)
    simp (disch := first | assumption | omega | decide) only [jx_qI_a, jx_qV_a, jx_qL_a, jn_lt, jn_le, jn_eq, jn_L, jn_A, jn_N, jn_LL, jn_add, jn_mul, jn_sub, jn_cl, jn_vin, jn_shl1, jn_shr, jn_or, jn_l_or0, jn_and1, jo_ltT, jo_ltF, jo_leT, jo_leF, jo_eqT, jo_eqF, true_or, or_true, true_and, and_true, false_or, or_false, false_and, and_false, if_true, if_false, not_true_eq_false, not_false_eq_true, jx_tab, eX6_firstFault, f2, hq]
  · rw [if_pos z1, z2, z3] at k0
    have hq := k0 M' 2 rfl (f1.trans fr2)
    simp (disch := first | assumption | omega | decide) only [jx_qI_a, jx_qV_a, jx_qL_a, jn_lt, jn_le, jn_eq, jn_L, jn_A, jn_N, jn_LL, jn_add, jn_mul, jn_sub, jn_cl, jn_vin, jn_shl1, jn_shr, jn_or, jn_l_or0, jn_and1, jo_ltT, jo_ltF, jo_leT, jo_leF, jo_eqT, jo_eqF, true_or, or_true, true_and, and_true, false_or, or_false, false_and, and_false, if_true, if_false, not_true_eq_false, not_false_eq_true, jx_tab, eX6_firstFault, f2, hq]
  · rw [if_pos z1, z2, z3] at k0 k1
    have k0 : ∀ M' a, tf_b1 v n (tf_pe v n 5 0 3 (tf_s0 x y)) = (none, a) → tf_fr D M' M → q (nI a) M' := k0
    have k1 : ∀ M' s a, tf_b1 v n (tf_pe v n 5 0 3 (tf_s0 x y)) = (some s, a) → tf_fr D M' M → tp_C M' D s → q (-9) M' := k1
    obtain ⟨-, -, hx, -⟩ := tf_dg_y (by decide) (by decide) z2
    obtain ⟨-, -, hy, -⟩ := tf_dg_y (by decide) (by decide) z3
    have hp := tf_people (d := d + 1) ht (v := v) (Q := jx_qI (fun r N2 => if r = 0 then q (N2 2 4) N2 else jx_I (d + 5) mX6_readsClaps [.ref 2] N2 (fun r2 N3 => if r2 = 0 then q (N3 2 4) N3 else if N3 2 4 = N3 2 3 then q (-9) N3 else q (N3 2 4) N3))) 5 0 3 (tf_s0 x y) M' rfl rfl rfl f2 f3 (fun M2 s2 a2 w1 w2 w3 w4 w5 => ?_) (fun M2 a2 w1 w2 w3 => ?_)
    · simp (disch := first | assumption | omega | decide) only [jx_qI_a, jx_qV_a, jx_qL_a, jn_lt, jn_le, jn_eq, jn_L, jn_A, jn_N, jn_LL, jn_add, jn_mul, jn_sub, jn_cl, jn_vin, jn_shl1, jn_shr, jn_or, jn_l_or0, jn_and1, jo_ltT, jo_ltF, jo_leT, jo_leF, jo_eqT, jo_eqF, true_or, or_true, true_and, and_true, false_or, or_false, false_and, and_false, if_true, if_false, not_true_eq_false, not_false_eq_true, jx_tab, eX6_firstFault, kX6_readsPeople, eX6_readsPeople]
      rw [← n0] at hp
      exact hp
    · rw [jx_qI_a]
      obtain ⟨g1, g2⟩ := tf_pe_rg 5 0 3 _ s2 a2 rfl (by simp [tf_s0]) (by simp [tf_s0]) (tf_s0_rg hx hy) w1
      rw [w1, tf_b1] at k0 k1
      by_cases h0 : 0 < s2 0 0
      · rw [if_pos h0] at k0 k1 ⊢
        rw [if_neg (by decide)]
        have hcl := tf_claps (d := d) ht (v := v) h0 g1.1 (Q := jx_qI (fun r2 N3 => if r2 = 0 then q (N3 2 4) N3 else if N3 2 4 = N3 2 3 then q (-9) N3 else q (N3 2 4) N3)) 6 0 a2 s2 M2 rfl (by omega) g2 rfl w3 w4 (fun M3 s3 a3 y1 y2 y3 y4 y5 => ?_) (fun M3 a3 y1 y2 y3 => ?_)
        · rw [← n0] at hcl
          simp (disch := first | assumption | omega | decide) only [jx_qI_a, jx_qV_a, jx_qL_a, jn_lt, jn_le, jn_eq, jn_L, jn_A, jn_N, jn_LL, jn_add, jn_mul, jn_sub, jn_cl, jn_vin, jn_shl1, jn_shr, jn_or, jn_l_or0, jn_and1, jo_ltT, jo_ltF, jo_leT, jo_leF, jo_eqT, jo_eqF, true_or, or_true, true_and, and_true, false_or, or_false, false_and, and_false, if_true, if_false, not_true_eq_false, not_false_eq_true, jx_tab, kX6_readsClaps, eX6_readsClaps]
          exact hcl
        · rw [jx_qI_a]
          rw [y1, tf_b2] at k0 k1
          have q4 := y3.2.2.2.2.1
          have q3 := y3.2.2.2.1
          by_cases h3 : 0 < s3 0 1
          · rw [if_pos h3, if_neg (by decide), q4, q3]
            by_cases ha : a3 = n
            · rw [if_pos (congrArg nI ha)]
              rw [if_pos ⟨h3, ha⟩] at k1
              exact k1 M3 s3 a3 rfl (((y2.trans w2).trans f1).trans fr2) y4
            · rw [if_neg (fun z => ha ((jn_eq (by omega) (by omega)).mp z))]
              rw [if_neg (fun z => ha z.2)] at k0
              exact k0 M3 a3 rfl (((y2.trans w2).trans f1).trans fr2)
          · rw [if_neg h3, if_pos rfl, q4]
            rw [if_neg (fun z => h3 z.1)] at k0
            exact k0 M3 a3 rfl (((y2.trans w2).trans f1).trans fr2)
        · rw [jx_qI_a, if_pos rfl, y3]
          rw [y1, tf_b2] at k0
          exact k0 M3 a3 rfl (((y2.trans w2).trans f1).trans fr2)
      · rw [if_neg h0] at k0 ⊢
        rw [if_pos rfl, w3.2.2.2.2.1]
        exact k0 M2 a2 rfl ((w2.trans f1).trans fr2)
    · rw [jx_qI_a, if_pos rfl, w3]
      rw [w1, tf_b1] at k0
      exact k0 M2 a2 rfl ((w2.trans f1).trans fr2)
end TF5
