/-! office: the claps, as the reference reads them -/
def tf_kv (x : Int32) : Int32 := if x = 99 then 0 else if x = 100 then 1 else if x = 98 then 2 else -9
theorem tf_kv_y {x : Int32} {k : Nat} (h : tf_kd x = some k) : tf_kv x = nI k := by
  unfold tf_kd at h
  unfold tf_kv
  by_cases h1 : x = 99
  · rw [if_pos h1] at h ⊢; cases h; rfl
  · rw [if_neg h1] at h ⊢
    by_cases h2 : x = 100
    · rw [if_pos h2] at h ⊢; cases h; rfl
    · rw [if_neg h2] at h ⊢
      by_cases h3 : x = 98
      · rw [if_pos h3] at h ⊢; cases h; rfl
      · rw [if_neg h3] at h; cases h
theorem tf_kv_n {x : Int32} (h : tf_kd x = none) : tf_kv x = -9 := by
  unfold tf_kd at h
  unfold tf_kv
  by_cases h1 : x = 99
  · rw [if_pos h1] at h; cases h
  · rw [if_neg h1] at h ⊢
    by_cases h2 : x = 100
    · rw [if_pos h2] at h; cases h
    · rw [if_neg h2] at h ⊢
      by_cases h3 : x = 98
      · rw [if_pos h3] at h; cases h
      · rw [if_neg h3]
section TG2
variable {d b n : Nat} {v : Nat → Int32} {M : jx_M} {q : Int32 → jx_M → Prop}
theorem tf_mk {X e : Int32} {c : Nat} {Q : jx_Po} (e18 : M 36 18 = nI c) (hc : c < 6) : jx_Ev (d + 2) mX8_readClap 22 [some (.ref 36), some (.int e), some (.int X)] [] M Q ↔ jx_Ev (d + 2) mX8_readClap 63 [some (.ref 36), some (.int e), some (.int X)] [] (jx_up M 47 c (tf_kv X)) Q := by
  unfold tf_kv
  by_cases h1 : X = 99
  · rw [if_pos h1]
    simp (disch := first | assumption | omega | decide) only [jx_qI_a, jx_qV_a, jx_qL_a, jn_lt, jn_le, jn_eq, jn_L, jn_A, jn_N, jn_LL, jn_add, jn_mul, jn_sub, jn_cl, jn_vin, jn_shl1, jn_shr, jn_or, jn_l_or0, jn_and1, jo_ltT, jo_ltF, jo_leT, jo_leF, jo_eqT, jo_eqF, true_or, or_true, true_and, and_true, false_or, or_false, false_and, and_false, if_true, if_false, not_true_eq_false, not_false_eq_true, jx_tab, eX8_readClap, e18, h1]
  · rw [if_neg h1]
    by_cases h2 : X = 100
    · rw [if_pos h2]
      subst h2
      simp (disch := first | assumption | omega | decide) only [jx_qI_a, jx_qV_a, jx_qL_a, jn_lt, jn_le, jn_eq, jn_L, jn_A, jn_N, jn_LL, jn_add, jn_mul, jn_sub, jn_cl, jn_vin, jn_shl1, jn_shr, jn_or, jn_l_or0, jn_and1, jo_ltT, jo_ltF, jo_leT, jo_leF, jo_eqT, jo_eqF, true_or, or_true, true_and, and_true, false_or, or_false, false_and, and_false, if_true, if_false, not_true_eq_false, not_false_eq_true, jx_tab, eX8_readClap, e18, h1]
    · rw [if_neg h2]
      by_cases h3 : X = 98
      · rw [if_pos h3]
        subst h3
        simp (disch := first | assumption | omega | decide) only [jx_qI_a, jx_qV_a, jx_qL_a, jn_lt, jn_le, jn_eq, jn_L, jn_A, jn_N, jn_LL, jn_add, jn_mul, jn_sub, jn_cl, jn_vin, jn_shl1, jn_shr, jn_or, jn_l_or0, jn_and1, jo_ltT, jo_ltF, jo_leT, jo_leF, jo_eqT, jo_eqF, true_or, or_true, true_and, and_true, false_or, or_false, false_and, and_false, if_true, if_false, not_true_eq_false, not_false_eq_true, jx_tab, eX8_readClap, e18, h1, h2]
      · rw [if_neg h3]
        simp (disch := first | assumption | omega | decide) only [jx_qI_a, jx_qV_a, jx_qL_a, jn_lt, jn_le, jn_eq, jn_L, jn_A, jn_N, jn_LL, jn_add, jn_mul, jn_sub, jn_cl, jn_vin, jn_shl1, jn_shr, jn_or, jn_l_or0, jn_and1, jo_ltT, jo_ltF, jo_leT, jo_leF, jo_eqT, jo_eqF, true_or, or_true, true_and, and_true, false_or, or_false, false_and, and_false, if_true, if_false, not_true_eq_false, not_false_eq_true, jx_tab, eX8_readClap, e18, h1, h2, h3]
theorem tf_mclap {c a P : Nat} {s : tp_S} (hb : b + n ≤ 240) (hc : tf_m M b n v a) (ha : a < 900) (hcc : c < 6) (hQ : tf_Q M s) (hs : s 0 1 = c) (hP : s 0 0 = P) (hP0 : 0 < P) (hP5 : P ≤ 5)
    (k0 : ∀ M', tf_kd (tf_K v n a) = none → tf_mf M' M → M' 36 14 = nI (b + a) → q 0 M')
    (k1 : ∀ k M', tf_kd (tf_K v n a) = some k → tf_dg v n (a + 1) 1 9 = none → tf_mf M' M → M' 36 14 = nI (b + (a + 1)) → q 0 M')
    (k2 : ∀ k z M', tf_kd (tf_K v n a) = some k → tf_dg v n (a + 1) 1 9 = some z → tf_dg v n (a + 2) 0 (P - 1) = none → tf_mf M' M → M' 36 14 = nI (b + (a + 2)) → q 0 M')
    (k3 : ∀ k z x M', tf_kd (tf_K v n a) = some k → tf_dg v n (a + 1) 1 9 = some z → tf_dg v n (a + 2) 0 (P - 1) = some x → tf_mf M' M → tf_m M' b n v (a + 3) → tf_Q M' (tf_s3 s c k z x) → q 1 M') : jx_I (d + 2) mX8_readClap [.ref 36, .int (nI (b + n))] M q := by
  have n0 : (0 : Int32) = nI 0 := fa_lit 0
  have n9 : (9 : Int32) = nI 9 := fa_lit 9
  have n1 : (1 : Int32) = nI 1 := fa_lit 1
  have np : nI c + 1 = nI (c + 1) := jn_add_l c 1
  have na : nI (b + a) + 1 = nI (b + (a + 1)) := jn_add_l (b + a) 1
  have ep : c + 1 - 1 = c := by omega
  have e14 := hc.1
  have e18 : M 36 18 = nI c := by rw [hQ.2.1, hs]
  have e17 : M 36 17 = nI P := by rw [hQ.1, hP]
  have eP1 : nI P - 1 = nI (P - 1) := jn_sub_l (n := 1) (by omega)
  have ne9 : ∀ x, x ≤ 9 → ¬ nI x = -9 := fun x hx z => by
    have := nI_pos (n := x) (by omega)
    rw [z] at this
    exact this (by decide)
  have key : ∀ X : Int32, tf_kd X = tf_kd (tf_K v n a) → jx_Ev (d + 2) mX8_readClap 22 [some (.ref 36), some (.int (nI (b + n))), some (.int X)] [] M (jx_qI q) := by
    intro X hX
    rw [tf_mk e18 hcc]
    rcases hd : tf_kd (tf_K v n a) with _ | k
    · rw [tf_kv_n (hX.trans hd)]
      have hq := k0 (jx_up M 47 c (-9)) hd (tf_mf_up (by omega)) (tf_m_up (x := 47) (y := c) (z := -9) hc (by omega) (by decide)).1
      have e1 : jx_up M 47 c (-9) 36 18 = nI c := by rw [jx_upA (by decide)]; exact e18
      have e2 := jx_upS M 47 c (-9)
      simp (disch := first | assumption | omega | decide) only [jx_qI_a, jx_qV_a, jx_qL_a, jn_lt, jn_le, jn_eq, jn_L, jn_A, jn_N, jn_LL, jn_add, jn_mul, jn_sub, jn_cl, jn_vin, jn_shl1, jn_shr, jn_or, jn_l_or0, jn_and1, jo_ltT, jo_ltF, jo_leT, jo_leF, jo_eqT, jo_eqF, true_or, or_true, true_and, and_true, false_or, or_false, false_and, and_false, if_true, if_false, not_true_eq_false, not_false_eq_true, jx_tab, eX8_readClap, e1, e2, hq]
    · rw [tf_kv_y (hX.trans hd)]
      have w := ne9 k (by have := tf_kd_le hd; omega)
      have e1 : jx_up M 47 c (nI k) 36 18 = nI c := by rw [jx_upA (by decide)]; exact e18
      have e2 := jx_upS M 47 c (nI k)
      have e3 : jx_up M 47 c (nI k) 36 14 = nI (b + a) := by rw [jx_upA (by decide)]; exact e14
      have hc2 := tf_m_at (a' := a + 1) (tf_m_up (x := 47) (y := c) (z := nI k) hc (by omega) (by decide))
      have fr2 : tf_mf (jx_up (jx_up M 47 c (nI k)) 36 14 (nI (b + (a + 1)))) M := (tf_mf_up (by omega)).trans (tf_mf_up (by omega))
      have e4 : jx_up (jx_up M 47 c (nI k)) 36 14 (nI (b + (a + 1))) 36 18 = nI c := by rw [jx_upB (by decide)]; exact e1
      have e5 : jx_up (jx_up M 47 c (nI k)) 36 14 (nI (b + (a + 1))) 36 17 = nI P := by rw [jx_upB (by decide), jx_upA (by decide)]; exact e17
      have hQ2 : ∀ x y, ¬ x = 47 → ¬ (x = 36 ∧ y = 14) → jx_up (jx_up M 47 c (nI k)) 36 14 (nI (b + (a + 1))) x y = M x y := fun x y z1 z2 => by rw [jx_upE, if_neg z2, jx_upA z1]
      have hQ3 : ∀ y, jx_up (jx_up M 47 c (nI k)) 36 14 (nI (b + (a + 1))) 47 y = if y = c then nI k else M 47 y := fun y => by
        rw [jx_upA (by decide), jx_upE]
        by_cases e : y = c
        · rw [if_pos ⟨rfl, e⟩, if_pos e]
        · rw [if_neg (fun z => e z.2), if_neg e]
      generalize hN : jx_up (jx_up M 47 c (nI k)) 36 14 (nI (b + (a + 1))) = N at hc2 fr2 e4 e5 hQ2 hQ3
      rcases hd2 : tf_dg v n (a + 1) 1 9 with _ | y
      · have g2 := fun d q => tf_mdig_n (d := d) (q := q) hb hc2 (by omega) (by decide) (by decide) hd2
        rw [← n1, ← n9] at g2
        have e6 : jx_up N 48 c (-9) 36 18 = nI c := by rw [jx_upA (by decide)]; exact e4
        have e7 := jx_upS N 48 c (-9)
        have hq := k1 k (jx_up N 48 c (-9)) hd hd2 ((tf_mf_up (by omega)).trans fr2) (tf_m_up (x := 48) (y := c) (z := -9) hc2 (by omega) (by decide)).1
        simp (disch := first | assumption | omega | decide) only [jx_qI_a, jx_qV_a, jx_qL_a, jn_lt, jn_le, jn_eq, jn_L, jn_A, jn_N, jn_LL, jn_add, jn_mul, jn_sub, jn_cl, jn_vin, jn_shl1, jn_shr, jn_or, jn_l_or0, jn_and1, jo_ltT, jo_ltF, jo_leT, jo_leF, jo_eqT, jo_eqF, true_or, or_true, true_and, and_true, false_or, or_false, false_and, and_false, if_true, if_false, not_true_eq_false, not_false_eq_true, jx_tab, eX8_readClap, e1, e2, e3, na, hN, e4, e6, e7, g2, w, hq]
      · have g2 := fun d q => tf_mdig_y (d := d) (q := q) hb hc2 (by omega) (by decide) (by decide) hd2
        rw [← n1, ← n9] at g2
        obtain ⟨-, -, hy, -⟩ := tf_dg_y (by decide) (by decide) hd2
        have w2 := ne9 y hy
        have e6 : jx_up (jx_up N 36 14 (nI (b + (a + 1 + 1)))) 48 c (nI y) 36 18 = nI c := by rw [jx_upA (by decide), jx_upB (by decide)]; exact e4
        have e6' : jx_up (jx_up N 36 14 (nI (b + (a + 1 + 1)))) 48 c (nI y) 36 17 = nI P := by rw [jx_upA (by decide), jx_upB (by decide)]; exact e5
        have e7 := jx_upS (jx_up N 36 14 (nI (b + (a + 1 + 1)))) 48 c (nI y)
        have hc3 := tf_m_up (x := 48) (y := c) (z := nI y) (tf_m_at (a' := a + 1 + 1) hc2) (by omega) (by decide)
        have fr3 : tf_mf (jx_up (jx_up N 36 14 (nI (b + (a + 1 + 1)))) 48 c (nI y)) M := ((tf_mf_up (by omega)).trans (tf_mf_up (by omega))).trans fr2
        have hR2 : ∀ x y', ¬ x = 48 → ¬ (x = 36 ∧ y' = 14) → jx_up (jx_up N 36 14 (nI (b + (a + 1 + 1)))) 48 c (nI y) x y' = N x y' := fun x y z1 z2 => by rw [jx_upA z1, jx_upE, if_neg z2]
        have hR3 : ∀ y', jx_up (jx_up N 36 14 (nI (b + (a + 1 + 1)))) 48 c (nI y) 48 y' = if y' = c then nI y else N 48 y' := fun y' => by
          rw [jx_upE]
          by_cases e : y' = c
          · rw [if_pos ⟨rfl, e⟩, if_pos e]
          · rw [if_neg (fun z => e z.2), if_neg e, jx_upA (by decide)]
        generalize hO : jx_up (jx_up N 36 14 (nI (b + (a + 1 + 1)))) 48 c (nI y) = O at e6 e6' e7 hc3 fr3 hR2 hR3
        rcases hd3 : tf_dg v n (a + 2) 0 (P - 1) with _ | x
        · have g3 := fun d q => tf_mdig_n (d := d) (q := q) hb hc3 (by omega) (by decide) (by omega) hd3
          rw [← n0] at g3
          have f1 : jx_up O 49 c (-9) 36 18 = nI c := by rw [jx_upA (by decide)]; exact e6
          have f2 : jx_up (jx_up O 49 c (-9)) 36 18 (nI (c + 1)) 36 18 = nI (c + 1) := jx_upS _ _ _ _
          have f3 : jx_up (jx_up O 49 c (-9)) 36 18 (nI (c + 1)) 49 c = -9 := by rw [jx_upA (by decide), jx_upS]
          have hc4 := tf_m_up (x := 36) (y := 18) (z := nI (c + 1)) (tf_m_up (x := 49) (y := c) (z := -9) hc3 (by omega) (by decide)) (by omega) (by decide)
          have hq := k2 k y (jx_up (jx_up O 49 c (-9)) 36 18 (nI (c + 1))) hd hd2 hd3 (((tf_mf_up (by omega)).trans (tf_mf_up (by omega))).trans fr3) hc4.1
          simp (disch := first | assumption | omega | decide) only [jx_qI_a, jx_qV_a, jx_qL_a, jn_lt, jn_le, jn_eq, jn_L, jn_A, jn_N, jn_LL, jn_add, jn_mul, jn_sub, jn_cl, jn_vin, jn_shl1, jn_shr, jn_or, jn_l_or0, jn_and1, jo_ltT, jo_ltF, jo_leT, jo_leF, jo_eqT, jo_eqF, true_or, or_true, true_and, and_true, false_or, or_false, false_and, and_false, if_true, if_false, not_true_eq_false, not_false_eq_true, jx_tab, eX8_readClap, e1, e2, e3, na, hN, e4, hO, e6, e6', e7, eP1, f1, f2, f3, np, ep, g2, g3, w, w2, hq]
        · have g3 := fun d q => tf_mdig_y (d := d) (q := q) hb hc3 (by omega) (by decide) (by omega) hd3
          rw [← n0] at g3
          obtain ⟨-, -, hx, -⟩ := tf_dg_y (by decide) (by omega) hd3
          have w3 := ne9 x (by omega)
          have f1 : jx_up (jx_up O 36 14 (nI (b + (a + 1 + 1 + 1)))) 49 c (nI x) 36 18 = nI c := by rw [jx_upA (by decide), jx_upB (by decide)]; exact e6
          have f2 : jx_up (jx_up (jx_up O 36 14 (nI (b + (a + 1 + 1 + 1)))) 49 c (nI x)) 36 18 (nI (c + 1)) 36 18 = nI (c + 1) := jx_upS _ _ _ _
          have f3 : jx_up (jx_up (jx_up O 36 14 (nI (b + (a + 1 + 1 + 1)))) 49 c (nI x)) 36 18 (nI (c + 1)) 49 c = nI x := by rw [jx_upA (by decide), jx_upS]
          have hc4 := tf_m_up (x := 36) (y := 18) (z := nI (c + 1)) (tf_m_up (x := 49) (y := c) (z := nI x) (tf_m_at (a' := a + 1 + 1 + 1) hc3) (by omega) (by decide)) (by omega) (by decide)
          have hS2 : ∀ x' y', ¬ x' = 49 → ¬ (x' = 36 ∧ y' = 14) → ¬ (x' = 36 ∧ y' = 18) → jx_up (jx_up (jx_up O 36 14 (nI (b + (a + 1 + 1 + 1)))) 49 c (nI x)) 36 18 (nI (c + 1)) x' y' = O x' y' := fun x' y' z1 z2 z3 => by rw [jx_upE, if_neg z3, jx_upA z1, jx_upE, if_neg z2]
          have hS3 : ∀ y', jx_up (jx_up (jx_up O 36 14 (nI (b + (a + 1 + 1 + 1)))) 49 c (nI x)) 36 18 (nI (c + 1)) 49 y' = if y' = c then nI x else O 49 y' := fun y' => by
            rw [jx_upA (by decide), jx_upE]
            by_cases e : y' = c
            · rw [if_pos ⟨rfl, e⟩, if_pos e]
            · rw [if_neg (fun z => e z.2), if_neg e, jx_upA (by decide)]
          have hq := k3 k y x (jx_up (jx_up (jx_up O 36 14 (nI (b + (a + 1 + 1 + 1)))) 49 c (nI x)) 36 18 (nI (c + 1))) hd hd2 hd3 ((((tf_mf_up (by omega)).trans (tf_mf_up (by omega))).trans (tf_mf_up (by omega))).trans fr3) hc4 (by
            obtain ⟨c1, c2, c3, c4, c5, c6⟩ := hQ
            subst hs
            refine ⟨?_, ?_, ?_, ?_, fun p' hp' => ?_, fun c' hcc' => ?_⟩
            · rw [hS2 _ _ (by omega) (by omega) (by omega), hR2 _ _ (by omega) (by omega), hQ2 _ _ (by omega) (by omega), c1]; simp [tf_s3]
            · rw [jx_upS]; simp [tf_s3]
            · rw [hS2 _ _ (by omega) (by omega) (by omega), hR2 _ _ (by omega) (by omega), hQ2 _ _ (by omega) (by omega), c3]; simp [tf_s3]
            · rw [hS2 _ _ (by omega) (by omega) (by omega), hR2 _ _ (by omega) (by omega), hQ2 _ _ (by omega) (by omega), c4]; simp [tf_s3]
            · have hp2 : p' < s 0 0 := by simpa [tf_s3] using hp'
              obtain ⟨u1, u2⟩ := c5 p' hp2
              constructor
              · rw [hS2 _ _ (by omega) (by omega) (by omega), hR2 _ _ (by omega) (by omega), hQ2 _ _ (by omega) (by omega), u1]; simp [tf_s3]
              · rw [hS2 _ _ (by omega) (by omega) (by omega), hR2 _ _ (by omega) (by omega), hQ2 _ _ (by omega) (by omega), u2]; simp [tf_s3]
            · have hc2 : c' < s 0 1 + 1 := by simpa [tf_s3] using hcc'
              rw [hS2 47 _ (by omega) (by omega) (by omega), hR2 47 _ (by omega) (by omega), hQ3, hS2 48 _ (by omega) (by omega) (by omega), hR3, hS3]
              by_cases e : c' = s 0 1
              · rw [if_pos e, if_pos e, if_pos e]
                refine ⟨?_, ?_, ?_⟩ <;> simp [tf_s3, e]
              · obtain ⟨u1, u2, u3⟩ := c6 c' (by omega)
                rw [if_neg e, if_neg e, if_neg e, hQ2 48 _ (by omega) (by omega), hR2 49 _ (by omega) (by omega), hQ2 49 _ (by omega) (by omega), u1, u2, u3]
                refine ⟨?_, ?_, ?_⟩ <;> simp [tf_s3, e])
          simp (disch := first | assumption | omega | decide) only [jx_qI_a, jx_qV_a, jx_qL_a, jn_lt, jn_le, jn_eq, jn_L, jn_A, jn_N, jn_LL, jn_add, jn_mul, jn_sub, jn_cl, jn_vin, jn_shl1, jn_shr, jn_or, jn_l_or0, jn_and1, jo_ltT, jo_ltF, jo_leT, jo_leF, jo_eqT, jo_eqF, true_or, or_true, true_and, and_true, false_or, or_false, false_and, and_false, if_true, if_false, not_true_eq_false, not_false_eq_true, jx_tab, eX8_readClap, e1, e2, e3, na, hN, e4, hO, e6, e6', e7, eP1, f1, f2, f3, np, ep, g2, g3, w, w2, w3, hq]
  by_cases h : a < n
  · have c2 := hc.2 a h
    have g := key (v a) (by rw [tf_K, if_pos h])
    have hiff : jx_I (d + 2) mX8_readClap [.ref 36, .int (nI (b + n))] M q ↔ jx_Ev (d + 2) mX8_readClap 22 [some (.ref 36), some (.int (nI (b + n))), some (.int (v a))] [] M (jx_qI q) := by
      simp (maxSteps := 3000000) (disch := first | assumption | omega | decide) only [jx_qI_a, jx_qV_a, jx_qL_a, jn_lt, jn_le, jn_eq, jn_L, jn_A, jn_N, jn_LL, jn_add, jn_mul, jn_sub, jn_cl, jn_vin, jn_shl1, jn_shr, jn_or, jn_l_or0, jn_and1, jo_ltT, jo_ltF, jo_leT, jo_leF, jo_eqT, jo_eqF, true_or, or_true, true_and, and_true, false_or, or_false, false_and, and_false, if_true, if_false, not_true_eq_false, not_false_eq_true, jx_tab, kX8_readClap, eX8_readClap, e14, c2]
    exact hiff.mpr g
  · have g := key 0 (by rw [tf_K, if_neg h]; decide)
    have hiff : jx_I (d + 2) mX8_readClap [.ref 36, .int (nI (b + n))] M q ↔ jx_Ev (d + 2) mX8_readClap 22 [some (.ref 36), some (.int (nI (b + n))), some (.int 0)] [] M (jx_qI q) := by
      simp (maxSteps := 3000000) (disch := first | assumption | omega | decide) only [jx_qI_a, jx_qV_a, jx_qL_a, jn_lt, jn_le, jn_eq, jn_L, jn_A, jn_N, jn_LL, jn_add, jn_mul, jn_sub, jn_cl, jn_vin, jn_shl1, jn_shr, jn_or, jn_l_or0, jn_and1, jo_ltT, jo_ltF, jo_leT, jo_leF, jo_eqT, jo_eqF, true_or, or_true, true_and, and_true, false_or, or_false, false_and, and_false, if_true, if_false, not_true_eq_false, not_false_eq_true, jx_tab, kX8_readClap, eX8_readClap, e14]
    exact hiff.mpr g
end TG2
