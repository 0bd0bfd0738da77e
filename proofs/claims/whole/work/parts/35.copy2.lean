/-! the call copy, both -/
section TPC2
variable {d : Nat} {M : jx_M}
theorem op_copy (h : tp_I M) (a b c e f : Int32) : jx_I (d + 20) mX7_copy [.ref 0, .int a, .int b, .int c, .int e, .int f] M (fun r M1 => jx_I (d + 20) mX8_copy [.ref 36, .int a, .int b, .int c, .int e, .int f] M1 (fun r2 M2 => r = r2 ∧ tp_I M2)) := by
  obtain ⟨s, o, hJ⟩ := h
  obtain ⟨ho, h06, h07, hr, hC, hD, hf, ht, hrd, hsh⟩ := id hJ
  have fin0 : tp_I (jx_up (jx_up M 0 9 0) 36 0 0) := ⟨s, o, tp_J_f 0 hJ (by simp [jx_upE]) (by simp [jx_upE]) (fun a b q1 q2 => by simp only [jx_upE, if_neg q1, if_neg q2])⟩
  have fin : ∀ x, tp_I (jx_up (jx_up (jx_up (jx_up M 0 9 0) 0 9 x) 36 0 0) 36 0 x) := fun x => ⟨s, o, tp_J_f x hJ (by simp [jx_upE]) (by simp [jx_upE]) (fun a b q1 q2 => by simp only [jx_upE, if_neg q1, if_neg q2])⟩
  rcases jx_ix a (n := 4) (by omega) with hn | ⟨k, hk, rfl⟩
  · have g3 := fun M d q => tp_isSheet_n (d := d) (q := q) (M := M) hn
    have g4 := fun M d q => tq_isSheet_n (d := d) (q := q) (M := M) hn
    have hx : ∀ q : Int32 → jx_M → Prop, q (-1) (jx_up M 0 9 0) → jx_I (d + 20) mX7_copy [.ref 0, .int a, .int b, .int c, .int e, .int f] M q := by
      intro q hq
      simp (disch := first | assumption | omega | decide) only [jx_qI_a, jx_qV_a, jx_qL_a, jn_LL, true_or, or_true, true_and, and_true, false_or, or_false, false_and, and_false, if_true, if_false, not_true_eq_false, not_false_eq_true, jx_tab, kX7_copy, ↓eX7_copy, ↓g3, hq]
    have hm : ∀ q : Int32 → jx_M → Prop, q (-1) (jx_up (jx_up M 0 9 0) 36 0 0) → jx_I (d + 20) mX8_copy [.ref 36, .int a, .int b, .int c, .int e, .int f] (jx_up M 0 9 0) q := by
      intro q hq
      simp (maxSteps := 3000000) (disch := first | assumption | omega | decide) only [jx_qI_a, jx_qV_a, jx_qL_a, jn_lt, jn_le, jn_eq, jn_L, jn_A, jn_N, jn_LL, jn_add, jn_mul, jn_sub, jn_cl, jn_vin, jn_shl1, jn_shr, jn_or, jn_l_or0, jn_and1, jo_ltT, jo_ltF, jo_leT, jo_leF, jo_eqT, jo_eqF, true_or, or_true, true_and, and_true, false_or, or_false, false_and, and_false, if_true, if_false, not_true_eq_false, not_false_eq_true, jx_tab, kX8_copy, ↓eX8_copy, ↓g4, hq]
    exact hx _ (hm _ ⟨rfl, fin0⟩)
  · have g3 := fun M d q => tp_isSheet_y (d := d) (q := q) (M := M) hk
    have g4 := fun M d q => tq_isSheet_y (d := d) (q := q) (M := M) hk
    rcases jx_ix c (n := 4) (by omega) with hn | ⟨k', hk', rfl⟩
    · have g5 := fun M d q => tp_isSheet_n (d := d) (q := q) (M := M) hn
      have g6 := fun M d q => tq_isSheet_n (d := d) (q := q) (M := M) hn
      have hx : ∀ q : Int32 → jx_M → Prop, q (-1) (jx_up M 0 9 0) → jx_I (d + 20) mX7_copy [.ref 0, .int (nI k), .int b, .int c, .int e, .int f] M q := by
        intro q hq
        simp (disch := first | assumption | omega | decide) only [jx_qI_a, jx_qV_a, jx_qL_a, jn_LL, true_or, or_true, true_and, and_true, false_or, or_false, false_and, and_false, if_true, if_false, not_true_eq_false, not_false_eq_true, jx_tab, kX7_copy, ↓eX7_copy, ↓g3, ↓g5, hq]
      have hm : ∀ q : Int32 → jx_M → Prop, q (-1) (jx_up (jx_up M 0 9 0) 36 0 0) → jx_I (d + 20) mX8_copy [.ref 36, .int (nI k), .int b, .int c, .int e, .int f] (jx_up M 0 9 0) q := by
        intro q hq
        simp (maxSteps := 3000000) (disch := first | assumption | omega | decide) only [jx_qI_a, jx_qV_a, jx_qL_a, jn_lt, jn_le, jn_eq, jn_L, jn_A, jn_N, jn_LL, jn_add, jn_mul, jn_sub, jn_cl, jn_vin, jn_shl1, jn_shr, jn_or, jn_l_or0, jn_and1, jo_ltT, jo_ltF, jo_leT, jo_leF, jo_eqT, jo_eqF, true_or, or_true, true_and, and_true, false_or, or_false, false_and, and_false, if_true, if_false, not_true_eq_false, not_false_eq_true, jx_tab, kX8_copy, ↓eX8_copy, ↓g4, ↓g6, hq]
      exact hx _ (hm _ ⟨rfl, fin0⟩)
    · have g5 := fun M d q => tp_isSheet_y (d := d) (q := q) (M := M) hk'
      have g6 := fun M d q => tq_isSheet_y (d := d) (q := q) (M := M) hk'
      obtain ⟨t1, t2, t3, t4⟩ := tp_St hk
      obtain ⟨t1', t2', t3', t4'⟩ := tp_St hk'
      obtain ⟨lane, len, hs⟩ := hsh k hk
      obtain ⟨lane', len', hs'⟩ := hsh k' hk'
      obtain ⟨h1, h2, h3, h4, h5, h6, h7⟩ := id hs
      obtain ⟨h1', h2', h3', h4', h5', h6', h7'⟩ := id hs'
      have m1 : ∀ b, jx_up M 0 9 0 (28 + 2 * k) b = M (28 + 2 * k) b := fun b => by rw [jx_upE, if_neg (by omega)]
      have m1' : ∀ b, jx_up M 0 9 0 (28 + 2 * k') b = M (28 + 2 * k') b := fun b => by rw [jx_upE, if_neg (by omega)]
      have mn : ∀ x, ∀ a b, ¬ a = 36 → ¬ a = 0 → jx_up (jx_up (jx_up M 0 9 0) 0 9 x) 36 0 0 a b = M a b := fun x a b z1 z2 => by simp only [jx_upE]; rw [if_neg (by omega), if_neg (by omega), if_neg (by omega)]
      by_cases hab : M (28 + 2 * k) 3 = 0 ∨ M (28 + 2 * k') 3 = 0
      · have hab2 : M 37 k = -9 ∨ M 37 k' = -9 := by
          rcases hab with z | z
          · rcases h6 with ⟨a1, a2⟩ | ⟨a1, a2⟩
            · exact Or.inl a2
            · rw [a1] at z; exact absurd z (by decide)
          · rcases h6' with ⟨a1, a2⟩ | ⟨a1, a2⟩
            · exact Or.inr a2
            · rw [a1] at z; exact absurd z (by decide)
        have hx : ∀ q : Int32 → jx_M → Prop, q (-10 - 1) (jx_up (jx_up M 0 9 0) 0 9 1) → jx_I (d + 20) mX7_copy [.ref 0, .int (nI k), .int b, .int (nI k'), .int e, .int f] M q := by
          intro q hq
          by_cases z : M (28 + 2 * k) 3 = 0
          · simp (maxSteps := 3000000) (disch := first | assumption | omega | decide) only [jx_qI_a, jx_qV_a, jx_qL_a, jn_lt, jn_le, jn_eq, jn_L, jn_A, jn_N, jn_LL, jn_add, jn_mul, jn_sub, jn_cl, jn_vin, jn_shl1, jn_shr, jn_or, jn_l_or0, jn_and1, jo_ltT, jo_ltF, jo_leT, jo_leF, jo_eqT, jo_eqF, true_or, or_true, true_and, and_true, false_or, or_false, false_and, and_false, if_true, if_false, not_true_eq_false, not_false_eq_true, jx_tab, kX7_copy, ↓eX7_copy, ↓g3, ↓g5, t4, t4', m1, m1', z, tp_faultAnswer, hq]
          · have z' := hab.resolve_left z
            simp (maxSteps := 3000000) (disch := first | assumption | omega | decide) only [jx_qI_a, jx_qV_a, jx_qL_a, jn_lt, jn_le, jn_eq, jn_L, jn_A, jn_N, jn_LL, jn_add, jn_mul, jn_sub, jn_cl, jn_vin, jn_shl1, jn_shr, jn_or, jn_l_or0, jn_and1, jo_ltT, jo_ltF, jo_leT, jo_leF, jo_eqT, jo_eqF, true_or, or_true, true_and, and_true, false_or, or_false, false_and, and_false, if_true, if_false, not_true_eq_false, not_false_eq_true, jx_tab, kX7_copy, ↓eX7_copy, ↓g3, ↓g5, t4, t4', m1, m1', z, z', tp_faultAnswer, hq]
        have hm : ∀ q : Int32 → jx_M → Prop, q (-10 - 1) (jx_up (jx_up (jx_up (jx_up M 0 9 0) 0 9 1) 36 0 0) 36 0 1) → jx_I (d + 20) mX8_copy [.ref 36, .int (nI k), .int b, .int (nI k'), .int e, .int f] (jx_up (jx_up M 0 9 0) 0 9 1) q := by
          intro q hq
          have e1 := mn 1 37 k (by decide) (by decide)
          have e2 := mn 1 37 k' (by decide) (by decide)
          by_cases z : M 37 k = -9
          · simp (maxSteps := 3000000) (disch := first | assumption | omega | decide) only [jx_qI_a, jx_qV_a, jx_qL_a, jn_lt, jn_le, jn_eq, jn_L, jn_A, jn_N, jn_LL, jn_add, jn_mul, jn_sub, jn_cl, jn_vin, jn_shl1, jn_shr, jn_or, jn_l_or0, jn_and1, jo_ltT, jo_ltF, jo_leT, jo_leF, jo_eqT, jo_eqF, true_or, or_true, true_and, and_true, false_or, or_false, false_and, and_false, if_true, if_false, not_true_eq_false, not_false_eq_true, jx_tab, kX8_copy, ↓eX8_copy, ↓g4, ↓g6, e1, e2, z, tq_fails, hq]
          · have z' := hab2.resolve_left z
            simp (maxSteps := 3000000) (disch := first | assumption | omega | decide) only [jx_qI_a, jx_qV_a, jx_qL_a, jn_lt, jn_le, jn_eq, jn_L, jn_A, jn_N, jn_LL, jn_add, jn_mul, jn_sub, jn_cl, jn_vin, jn_shl1, jn_shr, jn_or, jn_l_or0, jn_and1, jo_ltT, jo_ltF, jo_leT, jo_leF, jo_eqT, jo_eqF, true_or, or_true, true_and, and_true, false_or, or_false, false_and, and_false, if_true, if_false, not_true_eq_false, not_false_eq_true, jx_tab, kX8_copy, ↓eX8_copy, ↓g4, ↓g6, e1, e2, z, z', tq_fails, hq]
        exact hx _ (hm _ ⟨rfl, fin 1⟩)
      · obtain ⟨a1, a2⟩ : M (28 + 2 * k) 3 = 1 ∧ M 37 k = nI lane := by
          rcases h6 with ⟨a1, a2⟩ | z
          · exact absurd (Or.inl a1) hab
          · exact z
        obtain ⟨a1', a2'⟩ : M (28 + 2 * k') 3 = 1 ∧ M 37 k' = nI lane' := by
          rcases h6' with ⟨a1, a2⟩ | z
          · exact absurd (Or.inr a1) hab
          · exact z
        by_cases hll : lane = lane'
        · subst hll
          have x9 : ¬ nI lane = -9 := fun z => by
            have := nI_pos (n := lane) (by omega)
            rw [z] at this
            exact this (by decide)
          have g7 := fun d q => tp_hasCells (d := d) (q := q) (M := jx_up M 0 9 0) t1 (by rw [m1]; exact h4) h2 b f
          have g8 := fun d q => tp_hasCells (d := d) (q := q) (M := jx_up M 0 9 0) t1' (by rw [m1']; exact h4') h2' e f
          by_cases hok : (0 ≤ f.toInt ∧ 0 ≤ b.toInt ∧ b.toInt + f.toInt ≤ (len : Int)) ∧ (0 ≤ f.toInt ∧ 0 ≤ e.toInt ∧ e.toInt + f.toInt ≤ (len' : Int))
          · rw [if_pos hok.1] at g7
            rw [if_pos hok.2] at g8
            have u0 : (0 : Int32).toInt = 0 := by decide
            obtain ⟨i, hi, rfl⟩ := nI_of (show ¬ b < 0 by rw [fa_lt, u0]; omega)
            obtain ⟨j, hj, rfl⟩ := nI_of (show ¬ e < 0 by rw [fa_lt, u0]; omega)
            obtain ⟨n, hn, rfl⟩ := nI_of (show ¬ f < 0 by rw [fa_lt, u0]; omega)
            rw [nI_toInt hi, nI_toInt hj, nI_toInt hn] at hok
            have hcp : jx_cpP (28 + 2 * k + 1) (28 + 2 * k' + 1) (nI i) (nI j) (nI n) := by
              unfold jx_cpP
              rw [nI_clamp hi, nI_clamp hj, nI_clamp hn, t3, t3']
              exact ⟨nI_pos hi, nI_pos hj, nI_pos hn, by omega, by omega⟩
            have hx : ∀ q : Int32 → jx_M → Prop, q (nI n) (jx_cp (jx_up M 0 9 0) (28 + 2 * k + 1) (28 + 2 * k' + 1) (nI i) (nI j) (nI n)) → jx_I (d + 20) mX7_copy [.ref 0, .int (nI k), .int (nI i), .int (nI k'), .int (nI j), .int (nI n)] M q := by
              intro q hq
              simp (maxSteps := 3000000) (disch := first | assumption | omega | decide) only [jx_qI_a, jx_qV_a, jx_qL_a, jn_lt, jn_le, jn_eq, jn_L, jn_A, jn_N, jn_LL, jn_add, jn_mul, jn_sub, jn_cl, jn_vin, jn_shl1, jn_shr, jn_or, jn_l_or0, jn_and1, jo_ltT, jo_ltF, jo_leT, jo_leF, jo_eqT, jo_eqF, true_or, or_true, true_and, and_true, false_or, or_false, false_and, and_false, if_true, if_false, not_true_eq_false, not_false_eq_true, jx_tab, kX7_copy, ↓eX7_copy, ↓g3, ↓g5, t4, t4', m1, m1', a1, a1', h3, h3', ↓g7, ↓g8, hcp, hq]
            have cE : ∀ x y, jx_cp (jx_up M 0 9 0) (28 + 2 * k + 1) (28 + 2 * k' + 1) (nI i) (nI j) (nI n) x y = if x = 28 + 2 * k' + 1 ∧ j ≤ y ∧ y < j + n then M (28 + 2 * k + 1) (i + (y - j)) else jx_up M 0 9 0 x y := by
              intro x y
              unfold jx_cp va_cpy
              rw [nI_clamp hi, nI_clamp hj, nI_clamp hn]
              by_cases ex : x = 28 + 2 * k' + 1
              · by_cases c : j ≤ y ∧ y < j + n
                · rw [if_pos (show x = 28 + 2 * k' + 1 ∧ j ≤ y ∧ y < j + n from ⟨ex, c⟩), if_pos ex, if_pos c, jx_upE, if_neg (by omega)]
                · rw [if_neg (show ¬ (x = 28 + 2 * k' + 1 ∧ j ≤ y ∧ y < j + n) from fun z => c z.2), if_pos ex, if_neg c, ex]
              · rw [if_neg (show ¬ (x = 28 + 2 * k' + 1 ∧ j ≤ y ∧ y < j + n) from fun z => ex z.1), if_neg ex]
            have e37 : ∀ x, jx_cp (jx_up M 0 9 0) (28 + 2 * k + 1) (28 + 2 * k' + 1) (nI i) (nI j) (nI n) 37 x = M 37 x := fun x => by rw [cE, if_neg (by omega), jx_upE, if_neg (by omega)]
            have e38 : ∀ x, jx_cp (jx_up M 0 9 0) (28 + 2 * k + 1) (28 + 2 * k' + 1) (nI i) (nI j) (nI n) 38 x = M 38 x := fun x => by rw [cE, if_neg (by omega), jx_upE, if_neg (by omega)]
            have e39 : ∀ x, jx_cp (jx_up M 0 9 0) (28 + 2 * k + 1) (28 + 2 * k' + 1) (nI i) (nI j) (nI n) 39 x = M 39 x := fun x => by rw [cE, if_neg (by omega), jx_upE, if_neg (by omega)]
            refine hx _ (tq_cp_y (d := d) hk hk' (x := nI lane) (by rw [e37]; exact a2) (by rw [e37]; exact a2') x9 (by rw [e38]; exact h5) (by rw [e38]; exact h5') h2 h2' (by omega) (by omega) (fun M2 f1 f2 => ⟨rfl, s, o, tp_J_s hJ (fun t ht => ?_) ?_ (fun x y q1 q2 q3 => ?_)⟩))
            · have hev : ∀ x y, x ≠ 36 → x ≠ 0 → x ≠ 39 → x ≠ 28 + 2 * k' + 1 → M2 x y = M x y := fun x y z1 z2 z3 z4 => by
                rw [f1 x y z3, jx_upE, if_neg (by omega), cE, if_neg (by omega), jx_upE, if_neg (by omega)]
              by_cases htk : t = k'
              · subst htk
                refine ⟨lane, len', h1', h2', ?_, ?_, ?_, ?_, fun y hy => ?_⟩
                · rw [hev _ _ (by omega) (by omega) (by omega) (by omega)]; exact h3'
                · rw [hev _ _ (by omega) (by omega) (by omega) (by omega)]; exact h4'
                · rw [hev _ _ (by omega) (by omega) (by omega) (by omega)]; exact h5'
                · rw [hev _ _ (by omega) (by omega) (by omega) (by omega), hev _ _ (by omega) (by omega) (by omega) (by omega)]; exact h6'
                · have hc2 : M2 (28 + 2 * t + 1) y = if 28 + 2 * t + 1 = 28 + 2 * t + 1 ∧ j ≤ y ∧ y < j + n then M (28 + 2 * k + 1) (i + (y - j)) else jx_up M 0 9 0 (28 + 2 * t + 1) y := by
                    rw [f1 _ _ (by omega), jx_upE, if_neg (by omega), cE]
                  rw [f2, hc2]
                  by_cases c : j ≤ y ∧ y < j + n
                  · rw [if_pos (by omega), if_pos ⟨rfl, c⟩, e39]
                    have := h7 (i + (y - j)) (by omega)
                    rw [← this]
                    congr 1
                    omega
                  · rw [if_neg (by omega), if_neg (fun z => c z.2), e39, jx_upE, if_neg (by omega)]
                    exact h7' y hy
              · obtain ⟨la, le, hst⟩ := hsh t ht
                exact ⟨la, le, tp_s1_f2 hst (fun b => hev _ _ (by omega) (by omega) (by omega) (by omega)) (fun b => hev _ _ (by omega) (by omega) (by omega) (by omega)) (hev _ _ (by omega) (by omega) (by omega) (by omega)) (hev _ _ (by omega) (by omega) (by omega) (by omega)) (fun y hy => by rw [f2, if_neg (by omega), e39])⟩
            · have w1 : M2 36 0 = 0 := by rw [f1 _ _ (by omega), jx_upE, if_pos ⟨rfl, rfl⟩]
              have w2 : M2 0 9 = 0 := by rw [f1 _ _ (by omega), jx_upE, if_neg (by omega), cE, if_neg (by omega), jx_upE, if_pos ⟨rfl, rfl⟩]
              rw [w1, w2]
            · have y1 : x ≠ 39 := by omega
              have y2 : ¬ (x = 36 ∧ y = 0) := q3
              have y3 : ¬ (x = 28 + 2 * k' + 1 ∧ j ≤ y ∧ y < j + n) := by omega
              rw [f1 _ _ y1, jx_upE, if_neg y2, cE, if_neg y3, jx_upE, if_neg q2]
          · have hx : ∀ q : Int32 → jx_M → Prop, q (-10 - 3) (jx_up (jx_up M 0 9 0) 0 9 3) → jx_I (d + 20) mX7_copy [.ref 0, .int (nI k), .int b, .int (nI k'), .int e, .int f] M q := by
              intro q hq
              by_cases z : 0 ≤ f.toInt ∧ 0 ≤ b.toInt ∧ b.toInt + f.toInt ≤ (len : Int)
              · rw [if_pos z] at g7
                rw [if_neg (fun w => hok ⟨z, w⟩)] at g8
                simp (maxSteps := 3000000) (disch := first | assumption | omega | decide) only [jx_qI_a, jx_qV_a, jx_qL_a, jn_lt, jn_le, jn_eq, jn_L, jn_A, jn_N, jn_LL, jn_add, jn_mul, jn_sub, jn_cl, jn_vin, jn_shl1, jn_shr, jn_or, jn_l_or0, jn_and1, jo_ltT, jo_ltF, jo_leT, jo_leF, jo_eqT, jo_eqF, true_or, or_true, true_and, and_true, false_or, or_false, false_and, and_false, if_true, if_false, not_true_eq_false, not_false_eq_true, jx_tab, kX7_copy, ↓eX7_copy, ↓g3, ↓g5, t4, t4', m1, m1', a1, a1', h3, h3', ↓g7, ↓g8, tp_faultAnswer, hq]
              · rw [if_neg z] at g7
                simp (maxSteps := 3000000) (disch := first | assumption | omega | decide) only [jx_qI_a, jx_qV_a, jx_qL_a, jn_lt, jn_le, jn_eq, jn_L, jn_A, jn_N, jn_LL, jn_add, jn_mul, jn_sub, jn_cl, jn_vin, jn_shl1, jn_shr, jn_or, jn_l_or0, jn_and1, jo_ltT, jo_ltF, jo_leT, jo_leF, jo_eqT, jo_eqF, true_or, or_true, true_and, and_true, false_or, or_false, false_and, and_false, if_true, if_false, not_true_eq_false, not_false_eq_true, jx_tab, kX7_copy, ↓eX7_copy, ↓g3, ↓g5, t4, t4', m1, m1', a1, a1', h3, h3', ↓g7, tp_faultAnswer, hq]
            have mm : ∀ a b, ¬ a = 0 → jx_up (jx_up M 0 9 0) 0 9 3 a b = M a b := fun a b z => by simp only [jx_upE]; rw [if_neg (by omega), if_neg (by omega)]
            exact hx _ (tq_cp_n (d := d) hk hk' (x := nI lane) (by rw [mm _ _ (by decide)]; exact a2) (by rw [mm _ _ (by decide)]; exact a2') x9 (by rw [mm _ _ (by decide)]; exact h5) (by rw [mm _ _ (by decide)]; exact h5') h2 h2' hok ⟨rfl, fin 3⟩)
        · have x9 : ∀ l, l ≤ 2 → ¬ nI l = -9 := fun l hl z => by
            have := nI_pos (n := l) (by omega)
            rw [z] at this
            exact this (by decide)
          have y1 := x9 lane h1
          have y2 := x9 lane' h1'
          have hx : ∀ q : Int32 → jx_M → Prop, q (-10 - 2) (jx_up (jx_up M 0 9 0) 0 9 2) → jx_I (d + 20) mX7_copy [.ref 0, .int (nI k), .int b, .int (nI k'), .int e, .int f] M q := by
            intro q hq
            simp (maxSteps := 3000000) (disch := first | assumption | omega | decide) only [jx_qI_a, jx_qV_a, jx_qL_a, jn_lt, jn_le, jn_eq, jn_L, jn_A, jn_N, jn_LL, jn_add, jn_mul, jn_sub, jn_cl, jn_vin, jn_shl1, jn_shr, jn_or, jn_l_or0, jn_and1, jo_ltT, jo_ltF, jo_leT, jo_leF, jo_eqT, jo_eqF, true_or, or_true, true_and, and_true, false_or, or_false, false_and, and_false, if_true, if_false, not_true_eq_false, not_false_eq_true, jx_tab, kX7_copy, ↓eX7_copy, ↓g3, ↓g5, t4, t4', m1, m1', a1, a1', h3, h3', tp_faultAnswer, hq]
          have hm : ∀ q : Int32 → jx_M → Prop, q (-10 - 2) (jx_up (jx_up (jx_up (jx_up M 0 9 0) 0 9 2) 36 0 0) 36 0 2) → jx_I (d + 20) mX8_copy [.ref 36, .int (nI k), .int b, .int (nI k'), .int e, .int f] (jx_up (jx_up M 0 9 0) 0 9 2) q := by
            intro q hq
            have e1 := (mn 2 37 k (by decide) (by decide)).trans a2
            have e2 := (mn 2 37 k' (by decide) (by decide)).trans a2'
            simp (maxSteps := 3000000) (disch := first | assumption | omega | decide) only [jx_qI_a, jx_qV_a, jx_qL_a, jn_lt, jn_le, jn_eq, jn_L, jn_A, jn_N, jn_LL, jn_add, jn_mul, jn_sub, jn_cl, jn_vin, jn_shl1, jn_shr, jn_or, jn_l_or0, jn_and1, jo_ltT, jo_ltF, jo_leT, jo_leF, jo_eqT, jo_eqF, true_or, or_true, true_and, and_true, false_or, or_false, false_and, and_false, if_true, if_false, not_true_eq_false, not_false_eq_true, jx_tab, kX8_copy, ↓eX8_copy, ↓g4, ↓g6, e1, e2, y1, y2, tq_fails, hq]
          exact hx _ (hm _ ⟨rfl, fin 2⟩)
end TPC2
