/-! office: the claps, and the whole text, as the class reads them -/
section TF3
variable {d t i n D len : Nat} {v : Nat → Int32} {M : jx_M}
theorem tf_kd_le {x : Int32} {k : Nat} (h : tf_kd x = some k) : k ≤ 2 := by
  unfold tf_kd at h
  by_cases h1 : x = 99
  · rw [if_pos h1] at h; cases h; decide
  · rw [if_neg h1] at h
    by_cases h2 : x = 100
    · rw [if_pos h2] at h; cases h; decide
    · rw [if_neg h2] at h
      by_cases h3 : x = 98
      · rw [if_pos h3] at h; cases h; decide
      · rw [if_neg h3] at h; cases h
theorem tf_kof {q : Int32 → jx_M → Prop} (x : Int32) : jx_I d mX6_kindOf [.int x] M q ↔ (if x = 98 then q 2 M else if x = 99 then q 0 M else if x = 100 then q 1 M else q (-9) M) := by
  simp (disch := first | assumption | omega | decide) only [jx_qI_a, jx_qV_a, jx_qL_a, jn_LL, true_or, or_true, true_and, and_true, false_or, or_false, false_and, and_false, if_true, if_false, not_true_eq_false, not_false_eq_true, jx_tab, kX6_kindOf, eX6_kindOf]
theorem tf_kind {a : Nat} (ht : tf_t t i n D len) (hc : tf_c M t i n D v len a) (ha : a < 1000) {q : Int32 → jx_M → Prop} : (∀ k, tf_kd (tf_K v n a) = some k → (jx_I (d + 3) mX6_takeKind [.ref 2] M q ↔ q (nI k) (jx_up M 2 4 (nI (a + 1))))) ∧ (tf_kd (tf_K v n a) = none → (jx_I (d + 3) mX6_takeKind [.ref 2] M q ↔ q (-9) M)) := by
  have g := fun d q => tf_next (d := d) (q := q) ht hc (by omega)
  have c5 := hc.2.2.2.2.1
  have n1 : nI a + 1 = nI (a + 1) := jn_add_l a 1
  unfold tf_kd
  by_cases h1 : tf_K v n a = 99
  · rw [if_pos h1]
    refine ⟨fun k hk => ?_, fun z => by cases z⟩
    cases hk
    have kf : ∀ d q, jx_I d mX6_kindOf [.int 99] M q ↔ q 0 M := fun d q => by
      rw [tf_kof, if_neg (by decide), if_pos rfl]
    simp (disch := first | assumption | omega | decide) only [jx_qI_a, jx_qV_a, jx_qL_a, jn_LL, true_or, or_true, true_and, and_true, false_or, or_false, false_and, and_false, if_true, if_false, not_true_eq_false, not_false_eq_true, jx_tab, kX6_takeKind, eX6_takeKind, g, h1, kf, c5, n1]
    exact Iff.rfl
  · rw [if_neg h1]
    by_cases h2 : tf_K v n a = 100
    · rw [if_pos h2]
      refine ⟨fun k hk => ?_, fun z => by cases z⟩
      cases hk
      have kf : ∀ d q, jx_I d mX6_kindOf [.int 100] M q ↔ q 1 M := fun d q => by
        rw [tf_kof, if_neg (by decide), if_neg (by decide), if_pos rfl]
      simp (disch := first | assumption | omega | decide) only [jx_qI_a, jx_qV_a, jx_qL_a, jn_LL, true_or, or_true, true_and, and_true, false_or, or_false, false_and, and_false, if_true, if_false, not_true_eq_false, not_false_eq_true, jx_tab, kX6_takeKind, eX6_takeKind, g, h2, kf, c5, n1]
      exact Iff.rfl
    · rw [if_neg h2]
      by_cases h3 : tf_K v n a = 98
      · rw [if_pos h3]
        refine ⟨fun k hk => ?_, fun z => by cases z⟩
        cases hk
        have kf : ∀ d q, jx_I d mX6_kindOf [.int 98] M q ↔ q 2 M := fun d q => by
          rw [tf_kof, if_pos rfl]
        simp (disch := first | assumption | omega | decide) only [jx_qI_a, jx_qV_a, jx_qL_a, jn_LL, true_or, or_true, true_and, and_true, false_or, or_false, false_and, and_false, if_true, if_false, not_true_eq_false, not_false_eq_true, jx_tab, kX6_takeKind, eX6_takeKind, g, h3, kf, c5, n1]
        exact Iff.rfl
      · rw [if_neg h3]
        refine ⟨fun k hk => (by cases hk), fun _ => ?_⟩
        have kf : ∀ d q, jx_I d mX6_kindOf [.int (tf_K v n a)] M q ↔ q (-9) M := fun d q => by
          rw [tf_kof, if_neg h3, if_neg h1, if_neg h2]
        simp (disch := first | assumption | omega | decide) only [jx_qI_a, jx_qV_a, jx_qL_a, jn_LL, true_or, or_true, true_and, and_true, false_or, or_false, false_and, and_false, if_true, if_false, not_true_eq_false, not_false_eq_true, jx_tab, kX6_takeKind, eX6_takeKind, g, kf]
theorem tf_clap {c a P : Nat} {s : tp_S} (ht : tf_t t i n D len) (hc : tf_c M t i n D v len a) (ha : a < 900) (hcc : c < 6) (hC : tp_C M D s) (hs : s 0 1 = c) (hP : s 0 0 = P) (hP0 : 0 < P) (hP5 : P ≤ 5) {q : Int32 → jx_M → Prop}
    (k0 : ∀ M', tf_kd (tf_K v n a) = none → tf_fr D M' M → M' 2 4 = nI a → q 0 M')
    (k1 : ∀ k M', tf_kd (tf_K v n a) = some k → tf_dg v n (a + 1) 1 9 = none → tf_fr D M' M → M' 2 4 = nI (a + 1) → q 0 M')
    (k2 : ∀ k z M', tf_kd (tf_K v n a) = some k → tf_dg v n (a + 1) 1 9 = some z → tf_dg v n (a + 2) 0 (P - 1) = none → tf_fr D M' M → M' 2 4 = nI (a + 2) → q 0 M')
    (k3 : ∀ k z x M', tf_kd (tf_K v n a) = some k → tf_dg v n (a + 1) 1 9 = some z → tf_dg v n (a + 2) 0 (P - 1) = some x → tf_fr D M' M → tf_c M' t i n D v len (a + 3) → tp_C (jx_up M' D 6 (nI (c + 1))) D (tf_s3 s c k z x) → q 1 M') : jx_I (d + 4) mX6_readsClap [.ref 2, .int (nI c)] M q := by
  have ho : tp_O D := ht.2.2.2.2.2.2.2
  have hD : D = 16 ∨ D = 22 := ho
  obtain ⟨o0, o1, o2, o3, o4, o5, z1, z2, z3, z4, z5⟩ := tp_Ot ho
  have n0 : (0 : Int32) = nI 0 := fa_lit 0
  have n9 : (9 : Int32) = nI 9 := fa_lit 9
  have n1 : (1 : Int32) = nI 1 := fa_lit 1
  have e1 := tf_c_rv ht hc
  have neg9 : ¬ (0 : Int32) ≤ -9 := by decide
  have neg9' : (-9 : Int32) < 0 := by decide
  rcases hd : tf_kd (tf_K v n a) with _ | k
  · have g := fun d q => (tf_kind (d := d) (q := q) ht hc (by omega)).2 hd
    have hc1 := tf_c_D (x := D + 3) (y := c) (z := -9) ht hc (by omega)
    have hq := k0 (jx_up M (D + 3) c (-9)) hd (tf_fr_D (by omega)) hc1.2.2.2.2.1
    have e2 := tf_c_rv ht hc1
    have e3 := jx_upS M (D + 3) c (-9)
    simp (disch := first | assumption | omega | decide) only [jx_qI_a, jx_qV_a, jx_qL_a, jn_lt, jn_le, jn_eq, jn_L, jn_A, jn_N, jn_LL, jn_add, jn_mul, jn_sub, jn_cl, jn_vin, jn_shl1, jn_shr, jn_or, jn_l_or0, jn_and1, jo_ltT, jo_ltF, jo_leT, jo_leF, jo_eqT, jo_eqF, true_or, or_true, true_and, and_true, false_or, or_false, false_and, and_false, if_true, if_false, not_true_eq_false, not_false_eq_true, jx_tab, kX6_readsClap, eX6_readsClap, e1, e2, e3, g, neg9, hq]
  · have g := fun d q => (tf_kind (d := d) (q := q) ht hc (by omega)).1 k hd
    obtain ⟨w1, w2⟩ := tf_nn (show k ≤ 9 by have := tf_kd_le hd; omega)
    have hc1 := tf_c_at ht hc (a + 1)
    have hc2 := tf_c_D (x := D + 3) (y := c) (z := nI k) ht hc1 (by omega)
    have e2 := tf_c_rv ht hc2
    have e3 := jx_upS (jx_up M 2 4 (nI (a + 1))) (D + 3) c (nI k)
    have fr2 : tf_fr D (jx_up (jx_up M 2 4 (nI (a + 1))) (D + 3) c (nI k)) M := (tf_fr_D (by omega)).trans tf_fr_at
    rcases hd2 : tf_dg v n (a + 1) 1 9 with _ | y
    · have g2 := fun d q => tf_digit_n (d := d) (q := q) ht hc2 (by omega) (by decide) (by decide) hd2
      rw [← n1, ← n9] at g2
      have hc3 := tf_c_D (x := D + 4) (y := c) (z := -9) ht hc2 (by omega)
      have e4 := tf_c_rv ht hc3
      have e5 := jx_upS (jx_up (jx_up M 2 4 (nI (a + 1))) (D + 3) c (nI k)) (D + 4) c (-9)
      have hq := k1 k (jx_up (jx_up (jx_up M 2 4 (nI (a + 1))) (D + 3) c (nI k)) (D + 4) c (-9)) hd hd2 ((tf_fr_D (by omega)).trans fr2) hc3.2.2.2.2.1
      simp (disch := first | assumption | omega | decide) only [jx_qI_a, jx_qV_a, jx_qL_a, jn_lt, jn_le, jn_eq, jn_L, jn_A, jn_N, jn_LL, jn_add, jn_mul, jn_sub, jn_cl, jn_vin, jn_shl1, jn_shr, jn_or, jn_l_or0, jn_and1, jo_ltT, jo_ltF, jo_leT, jo_leF, jo_eqT, jo_eqF, true_or, or_true, true_and, and_true, false_or, or_false, false_and, and_false, if_true, if_false, not_true_eq_false, not_false_eq_true, jx_tab, kX6_readsClap, eX6_readsClap, e1, e2, e3, e4, e5, g, g2, w1, neg9, hq]
    · have g2 := fun d q => tf_digit_y (d := d) (q := q) ht hc2 (by omega) (by decide) (by decide) hd2
      rw [← n1, ← n9] at g2
      obtain ⟨-, -, hy, -⟩ := tf_dg_y (by decide) (by decide) hd2
      obtain ⟨w3, w4⟩ := tf_nn (show y ≤ 9 by omega)
      have hc3 := tf_c_D (x := D + 4) (y := c) (z := nI y) ht (tf_c_at ht hc2 (a + 1 + 1)) (by omega)
      have e4 := tf_c_rv ht hc3
      have fr3 : tf_fr D (jx_up (jx_up (jx_up (jx_up M 2 4 (nI (a + 1))) (D + 3) c (nI k)) 2 4 (nI (a + 1 + 1))) (D + 4) c (nI y)) M := ((tf_fr_D (by omega)).trans tf_fr_at).trans fr2
      have e5 := jx_upS (jx_up (jx_up (jx_up M 2 4 (nI (a + 1))) (D + 3) c (nI k)) 2 4 (nI (a + 1 + 1))) (D + 4) c (nI y)
      have eP : (jx_up (jx_up (jx_up (jx_up M 2 4 (nI (a + 1))) (D + 3) c (nI k)) 2 4 (nI (a + 1 + 1))) (D + 4) c (nI y)) D 5 = nI P := by
        rw [jx_upA (by omega), jx_upA (by omega), jx_upA (by omega), jx_upA (by omega), hC.1, hP]
      generalize hN : jx_up (jx_up (jx_up (jx_up M 2 4 (nI (a + 1))) (D + 3) c (nI k)) 2 4 (nI (a + 1 + 1))) (D + 4) c (nI y) = N at hc3 e4 fr3 e5 eP
      have eN := hN
      have eP1 : nI P - 1 = nI (P - 1) := jn_sub_l (n := 1) (by omega)
      rcases hd3 : tf_dg v n (a + 2) 0 (P - 1) with _ | x
      · have g3 := fun d q => tf_digit_n (d := d) (q := q) ht hc3 (by omega) (by decide) (by omega) hd3
        rw [← n0] at g3
        have hc4 := tf_c_D (x := D + 5) (y := c) (z := -9) ht hc3 (by omega)
        have e6 := tf_c_rv ht hc4
        have e7 := jx_upS N (D + 5) c (-9)
        have hq := k2 k y (jx_up N (D + 5) c (-9)) hd hd2 hd3 ((tf_fr_D (by omega)).trans fr3) hc4.2.2.2.2.1
        simp (disch := first | assumption | omega | decide) only [jx_qI_a, jx_qV_a, jx_qL_a, jn_lt, jn_le, jn_eq, jn_L, jn_A, jn_N, jn_LL, jn_add, jn_mul, jn_sub, jn_cl, jn_vin, jn_shl1, jn_shr, jn_or, jn_l_or0, jn_and1, jo_ltT, jo_ltF, jo_leT, jo_leF, jo_eqT, jo_eqF, true_or, or_true, true_and, and_true, false_or, or_false, false_and, and_false, if_true, if_false, not_true_eq_false, not_false_eq_true, jx_tab, kX6_readsClap, eX6_readsClap, e1, e2, e3, e4, e5, eN, eP, eP1, e6, e7, g, g2, g3, w1, w3, neg9', hq]
      · have g3 := fun d q => tf_digit_y (d := d) (q := q) ht hc3 (by omega) (by decide) (by omega) hd3
        rw [← n0] at g3
        obtain ⟨-, -, hx, -⟩ := tf_dg_y (by decide) (by omega) hd3
        obtain ⟨w5, w6⟩ := tf_nn (show x ≤ 9 by omega)
        have hc4 := tf_c_D (x := D + 5) (y := c) (z := nI x) ht (tf_c_at ht hc3 (a + 2 + 1)) (by omega)
        have e6 := tf_c_rv ht hc4
        have e7 := jx_upS (jx_up N 2 4 (nI (a + 2 + 1))) (D + 5) c (nI x)
        have hq := k3 k y x (jx_up (jx_up N 2 4 (nI (a + 2 + 1))) (D + 5) c (nI x)) hd hd2 hd3 (((tf_fr_D (by omega)).trans tf_fr_at).trans fr3) hc4 (by
          obtain ⟨c1, c2, c3, c4, c5, c6⟩ := hC
          subst hs
          rw [← hN]
          refine ⟨?_, ?_, ?_, ?_, fun p' hp' => ?_, fun c' hcc' => ?_⟩
          · simp [jx_upE, tf_s3, c1]
          · rw [jx_upS]; simp [tf_s3]
          · simp [jx_upE, tf_s3, c3]
          · simp [jx_upE, tf_s3, c4]
          · have hp2 : p' < s 0 0 := by simpa [tf_s3] using hp'
            obtain ⟨f1, f2⟩ := c5 p' hp2
            constructor
            · rw [jx_upA (by omega), jx_upA (by omega), jx_upA (by omega), jx_upA (by omega), jx_upA (by omega), jx_upA (by omega), jx_upA (by omega), f1]; simp [tf_s3]
            · rw [jx_upA (by omega), jx_upA (by omega), jx_upA (by omega), jx_upA (by omega), jx_upA (by omega), jx_upA (by omega), jx_upA (by omega), f2]; simp [tf_s3]
          · have hc2 : c' < s 0 1 + 1 := by simpa [tf_s3] using hcc'
            by_cases e : c' = s 0 1
            · subst e
              refine ⟨?_, ?_, ?_⟩
              · rw [jx_upA (by omega), jx_upA (by omega), jx_upA (by omega), jx_upA (by omega), jx_upA (by omega), jx_upS]; simp [tf_s3]
              · rw [jx_upA (by omega), jx_upA (by omega), jx_upA (by omega), jx_upS]; simp [tf_s3]
              · rw [jx_upA (by omega), jx_upS]; simp [tf_s3]
            · obtain ⟨f1, f2, f3⟩ := c6 c' (by omega)
              refine ⟨?_, ?_, ?_⟩
              · rw [jx_upA (by omega), jx_upA (by omega), jx_upA (by omega), jx_upA (by omega), jx_upA (by omega), jx_upB (by omega), jx_upA (by omega), f1]; simp [tf_s3, e]
              · rw [jx_upA (by omega), jx_upA (by omega), jx_upA (by omega), jx_upB (by omega), jx_upA (by omega), jx_upA (by omega), jx_upA (by omega), f2]; simp [tf_s3, e]
              · rw [jx_upA (by omega), jx_upB (by omega), jx_upA (by omega), jx_upA (by omega), jx_upA (by omega), jx_upA (by omega), jx_upA (by omega), f3]; simp [tf_s3, e])
        simp (disch := first | assumption | omega | decide) only [jx_qI_a, jx_qV_a, jx_qL_a, jn_lt, jn_le, jn_eq, jn_L, jn_A, jn_N, jn_LL, jn_add, jn_mul, jn_sub, jn_cl, jn_vin, jn_shl1, jn_shr, jn_or, jn_l_or0, jn_and1, jo_ltT, jo_ltF, jo_leT, jo_leF, jo_eqT, jo_eqF, true_or, or_true, true_and, and_true, false_or, or_false, false_and, and_false, if_true, if_false, not_true_eq_false, not_false_eq_true, jx_tab, kX6_readsClap, eX6_readsClap, e1, e2, e3, e4, e5, eN, eP, eP1, e6, e7, g, g2, g3, w1, w3, w6, hq]
/-- the claps, one after another -/
theorem tf_claps {P : Nat} (ht : tf_t t i n D len) (hP0 : 0 < P) (hP5 : P ≤ 5) {Q : jx_Po} : ∀ r c a s (M : jx_M), c + r = 6 → a ≤ 18 + 4 * c → s 0 1 = c → s 0 0 = P → tf_c M t i n D v len a → tp_C M D s → (∀ M' s' a', tf_cl v n r c a s = (some s', a') → tf_fr D M' M → tf_c M' t i n D v len a' → tp_C M' D s' → a' ≤ 42 → Q [.int (if 0 < s' 0 1 then 1 else 0)] M') → (∀ M' a', tf_cl v n r c a s = (none, a') → tf_fr D M' M → M' 2 4 = nI a' → Q [.int 0] M') → jx_Ev (d + 5) mX6_readsClaps 2 [some (.ref 2), some (.int (nI c))] [] M Q
  | 0, c, a, s, M, h, ha, hs, hP, hc, hC, k1, k0 => by
    have h : c = 6 := h
    subst h
    have ho : tp_O D := ht.2.2.2.2.2.2.2
    obtain ⟨o0, o1, o2, o3, o4, o5, z1, z2, z3, z4, z5⟩ := tp_Ot ho
    have hq := k1 M s a rfl (fun _ _ _ _ => rfl) hc hC (by omega)
    have e1 := tf_c_rv ht hc
    have c1 := hC.2.1
    rw [hs] at c1 hq
    rw [if_pos (by decide)] at hq
    rw [eX6_readsClaps_2]
    simp (disch := first | assumption | omega | decide) only [jx_qI_a, jx_qV_a, jx_qL_a, jn_lt, jn_le, jn_eq, jn_L, jn_A, jn_N, jn_LL, jn_add, jn_mul, jn_sub, jn_cl, jn_vin, jn_shl1, jn_shr, jn_or, jn_l_or0, jn_and1, jo_ltT, jo_ltF, jo_leT, jo_leF, jo_eqT, jo_eqF, true_or, or_true, true_and, and_true, false_or, or_false, false_and, and_false, if_true, if_false, not_true_eq_false, not_false_eq_true, jx_tab, eX6_readsClaps, e1, c1, hq]
  | r + 1, c, a, s, M, h, ha, hs, hP, hc, hC, k1, k0 => by
    have ho : tp_O D := ht.2.2.2.2.2.2.2
    have hD : D = 16 ∨ D = 22 := ho
    obtain ⟨o0, o1, o2, o3, o4, o5, z1, z2, z3, z4, z5⟩ := tp_Ot ho
    have e1 := tf_c_rv ht hc
    have c1 := hC.2.1
    rw [hs] at c1
    have g := fun d q => tf_takes (d := d) (q := q) ht hc (by omega) 59
    rw [tf_cl] at k1 k0
    rw [eX6_readsClaps_2]
    by_cases hk : tf_K v n a = 59
    · simp only [hk, if_true] at g
      rw [if_pos hk] at k1 k0
      rw [hP] at k1 k0
      have hc1 := tf_c_at ht hc (a + 1)
      have hC1 : tp_C (jx_up M 2 4 (nI (a + 1))) D s := tp_C_fr hC (fun x y z1 z2 => jx_upA (by omega))
      simp (disch := first | assumption | omega | decide) only [jx_qI_a, jx_qV_a, jx_qL_a, jn_lt, jn_le, jn_eq, jn_L, jn_A, jn_N, jn_LL, jn_add, jn_mul, jn_sub, jn_cl, jn_vin, jn_shl1, jn_shr, jn_or, jn_l_or0, jn_and1, jo_ltT, jo_ltF, jo_leT, jo_leF, jo_eqT, jo_eqF, true_or, or_true, true_and, and_true, false_or, or_false, false_and, and_false, if_true, if_false, not_true_eq_false, not_false_eq_true, jx_tab, eX6_readsClaps, g]
      refine tf_clap (c := c) (a := a + 1) (d := d) ht hc1 (by omega) (by omega) hC1 hs hP hP0 hP5 (fun M' q1 f1 f2 => ?_) (fun k M' q1 q2 f1 f2 => ?_) (fun k z M' q1 q2 q3 f1 f2 => ?_) (fun k z x M' q1 q2 q3 f1 f2 f3 => ?_)
      · rw [q1] at k0
        have hq := k0 M' _ rfl (f1.trans tf_fr_at) f2
        simp (disch := first | assumption | omega | decide) only [jx_qI_a, jx_qV_a, jx_qL_a, jn_lt, jn_le, jn_eq, jn_L, jn_A, jn_N, jn_LL, jn_add, jn_mul, jn_sub, jn_cl, jn_vin, jn_shl1, jn_shr, jn_or, jn_l_or0, jn_and1, jo_ltT, jo_ltF, jo_leT, jo_leF, jo_eqT, jo_eqF, true_or, or_true, true_and, and_true, false_or, or_false, false_and, and_false, if_true, if_false, not_true_eq_false, not_false_eq_true, jx_tab, eX6_readsClaps, hq]
      · rw [q1, q2] at k0
        have hq := k0 M' _ rfl (f1.trans tf_fr_at) f2
        simp (disch := first | assumption | omega | decide) only [jx_qI_a, jx_qV_a, jx_qL_a, jn_lt, jn_le, jn_eq, jn_L, jn_A, jn_N, jn_LL, jn_add, jn_mul, jn_sub, jn_cl, jn_vin, jn_shl1, jn_shr, jn_or, jn_l_or0, jn_and1, jo_ltT, jo_ltF, jo_leT, jo_leF, jo_eqT, jo_eqF, true_or, or_true, true_and, and_true, false_or, or_false, false_and, and_false, if_true, if_false, not_true_eq_false, not_false_eq_true, jx_tab, eX6_readsClaps, hq]
      · rw [q1, q2, q3] at k0
        have hq := k0 M' _ rfl (f1.trans tf_fr_at) f2
        simp (disch := first | assumption | omega | decide) only [jx_qI_a, jx_qV_a, jx_qL_a, jn_lt, jn_le, jn_eq, jn_L, jn_A, jn_N, jn_LL, jn_add, jn_mul, jn_sub, jn_cl, jn_vin, jn_shl1, jn_shr, jn_or, jn_l_or0, jn_and1, jo_ltT, jo_ltF, jo_leT, jo_leF, jo_eqT, jo_eqF, true_or, or_true, true_and, and_true, false_or, or_false, false_and, and_false, if_true, if_false, not_true_eq_false, not_false_eq_true, jx_tab, eX6_readsClaps, hq]
      · rw [q1, q2, q3] at k0 k1
        have e1' := tf_c_rv ht f2
        have ih := tf_claps ht hP0 hP5 (Q := Q) r (c + 1) (a + 4) (tf_s3 s c k z x) (jx_up M' D 6 (nI (c + 1))) (by omega) (by omega) (by simp [tf_s3]) (by simp [tf_s3, hP]) (tf_c_D ht f2 (by omega)) f3 (fun M2 s2 a2 w1 w2 => k1 M2 s2 a2 w1 ((w2.trans (tf_fr_D (by omega))).trans (f1.trans tf_fr_at))) (fun M2 a2 w1 w2 => k0 M2 a2 w1 ((w2.trans (tf_fr_D (by omega))).trans (f1.trans tf_fr_at)))
        simp (disch := first | assumption | omega | decide) only [jx_qI_a, jx_qV_a, jx_qL_a, jn_lt, jn_le, jn_eq, jn_L, jn_A, jn_N, jn_LL, jn_add, jn_mul, jn_sub, jn_cl, jn_vin, jn_shl1, jn_shr, jn_or, jn_l_or0, jn_and1, jo_ltT, jo_ltF, jo_leT, jo_leF, jo_eqT, jo_eqF, true_or, or_true, true_and, and_true, false_or, or_false, false_and, and_false, if_true, if_false, not_true_eq_false, not_false_eq_true, jx_tab, eX6_readsClaps, e1', ih]
    · simp only [hk, if_false] at g
      rw [if_neg hk] at k1
      have hq := k1 M s a rfl (fun _ _ _ _ => rfl) hc hC (by omega)
      rw [hs] at hq
      by_cases hp0 : 0 < c
      · rw [if_pos hp0] at hq
        simp (disch := first | assumption | omega | decide) only [jx_qI_a, jx_qV_a, jx_qL_a, jn_lt, jn_le, jn_eq, jn_L, jn_A, jn_N, jn_LL, jn_add, jn_mul, jn_sub, jn_cl, jn_vin, jn_shl1, jn_shr, jn_or, jn_l_or0, jn_and1, jo_ltT, jo_ltF, jo_leT, jo_leF, jo_eqT, jo_eqF, true_or, or_true, true_and, and_true, false_or, or_false, false_and, and_false, if_true, if_false, not_true_eq_false, not_false_eq_true, jx_tab, eX6_readsClaps, g, e1, c1, hq]
      · rw [if_neg hp0] at hq
        simp (disch := first | assumption | omega | decide) only [jx_qI_a, jx_qV_a, jx_qL_a, jn_lt, jn_le, jn_eq, jn_L, jn_A, jn_N, jn_LL, jn_add, jn_mul, jn_sub, jn_cl, jn_vin, jn_shl1, jn_shr, jn_or, jn_l_or0, jn_and1, jo_ltT, jo_ltF, jo_leT, jo_leF, jo_eqT, jo_eqF, true_or, or_true, true_and, and_true, false_or, or_false, false_and, and_false, if_true, if_false, not_true_eq_false, not_false_eq_true, jx_tab, eX6_readsClaps, g, e1, c1, hq]
end TF3
