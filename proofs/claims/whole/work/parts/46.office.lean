/-! the call office -/
theorem tf_all_le (v : Nat → Int32) (n : Nat) : (tf_all v n).2 ≤ 60 := by
  unfold tf_all
  by_cases hk : tf_K v n 0 = 116
  · rw [if_pos hk]
    rcases hd : tf_dg v n 1 0 3 with _ | x
    · show 1 ≤ 60; decide
    · rcases hd2 : tf_dg v n 2 0 9 with _ | y
      · show 2 ≤ 60; decide
      · show (tf_b1 v n (tf_pe v n 5 0 3 (tf_s0 x y))).2 ≤ 60
        have h1 := tf_pe_le (v := v) (n := n) 5 0 3 (tf_s0 x y)
        rcases hp : tf_pe v n 5 0 3 (tf_s0 x y) with ⟨_ | s1, a1⟩
        · rw [hp] at h1
          have h1 : a1 ≤ 3 + 3 * 5 := h1
          show a1 ≤ 60
          omega
        · rw [hp] at h1
          have h1 : a1 ≤ 3 + 3 * 5 := h1
          rw [tf_b1]
          by_cases h0 : 0 < s1 0 0
          · rw [if_pos h0]
            have h2 := tf_cl_le (v := v) (n := n) 6 0 a1 s1
            rcases hq : tf_cl v n 6 0 a1 s1 with ⟨_ | s2, a2⟩
            · rw [hq] at h2
              have h2 : a2 ≤ a1 + 4 * 6 := h2
              show a2 ≤ 60
              omega
            · rw [hq] at h2
              have h2 : a2 ≤ a1 + 4 * 6 := h2
              rw [tf_b2]
              by_cases h3 : 0 < s2 0 1 ∧ a2 = n
              · rw [if_pos h3]; show a2 ≤ 60; omega
              · rw [if_neg h3]; show a2 ≤ 60; omega
          · rw [if_neg h0]; show a1 ≤ 60; omega
  · rw [if_neg hk]; show 0 ≤ 60; decide
section TG6
variable {d : Nat} {M : jx_M}
theorem op_office (h : tp_I M) (a b c n : Int32) : jx_I (d + 20) mX7_office [.ref 0, .int a, .int b, .int c, .int n] M (fun r M1 => jx_I (d + 20) mX8_office [.ref 36, .int a, .int b, .int c, .int n] M1 (fun r2 M2 => r = r2 ∧ tp_I M2)) := by
  obtain ⟨s, o, hJ⟩ := h
  obtain ⟨ho, h06, h07, hr, hC, hD, hf, ht, hrd, hsh⟩ := id hJ
  have hoo : o = 16 ∨ o = 22 := ho
  have hJ0 : tp_J (jx_up (jx_up M 0 9 0) 36 0 0) s o := tp_J_f 0 hJ (by simp [jx_upE]) (by simp [jx_upE]) (fun a b q1 q2 => by simp only [jx_upE, if_neg q1, if_neg q2])
  have fin0 : tp_I (jx_up (jx_up M 0 9 0) 36 0 0) := ⟨s, o, hJ0⟩
  rcases jx_ix a (n := 4) (by omega) with hn | ⟨k, hk, rfl⟩
  · have g3 := fun M d q => tp_isSheet_n (d := d) (q := q) (M := M) hn
    have g4 := fun M d q => tq_isSheet_n (d := d) (q := q) (M := M) hn
    have hx : ∀ q : Int32 → jx_M → Prop, q (-1) (jx_up M 0 9 0) → jx_I (d + 20) mX7_office [.ref 0, .int a, .int b, .int c, .int n] M q := by
      intro q hq
      simp (disch := first | assumption | omega | decide) only [kX7_office, ↓eX7_office, ↓g3, jx_qI_a, jn_LL, if_true, if_false, hq]
    have hm : ∀ q : Int32 → jx_M → Prop, q (-1) (jx_up (jx_up M 0 9 0) 36 0 0) → jx_I (d + 20) mX8_office [.ref 36, .int a, .int b, .int c, .int n] (jx_up M 0 9 0) q := by
      intro q hq
      simp (disch := first | assumption | omega | decide) only [kX8_office, ↓eX8_office, ↓g4, jx_qI_a, jn_LL, if_true, if_false, hq]
    exact hx _ (hm _ ⟨rfl, fin0⟩)
  · have g3 := fun M d q => tp_isSheet_y (d := d) (q := q) (M := M) hk
    have g4 := fun M d q => tq_isSheet_y (d := d) (q := q) (M := M) hk
    obtain ⟨t1, t2, t3, t4⟩ := tp_St hk
    obtain ⟨lane, len, hs⟩ := hsh k hk
    rcases jx_ix b (n := 3) (by omega) with hn | ⟨ln, hl, rfl⟩
    · have g5 := fun M d q => tp_isLane_n (d := d) (q := q) (M := M) hn
      have g6 := fun M d q => tq_isSort_n (d := d) (q := q) (M := M) hn
      have hx : ∀ q : Int32 → jx_M → Prop, q (-2) (jx_up M 0 9 0) → jx_I (d + 20) mX7_office [.ref 0, .int (nI k), .int b, .int c, .int n] M q := by
        intro q hq
        simp (disch := first | assumption | omega | decide) only [kX7_office, ↓eX7_office, ↓g3, ↓g5, jx_qI_a, jn_LL, if_true, if_false, hq]
      have hm : ∀ q : Int32 → jx_M → Prop, q (-2) (jx_up (jx_up M 0 9 0) 36 0 0) → jx_I (d + 20) mX8_office [.ref 36, .int (nI k), .int b, .int c, .int n] (jx_up M 0 9 0) q := by
        intro q hq
        simp (disch := first | assumption | omega | decide) only [kX8_office, ↓eX8_office, ↓g4, ↓g6, jx_qI_a, jn_LL, if_true, if_false, hq]
      exact hx _ (hm _ ⟨rfl, fin0⟩)
    · have g5 := fun M d q => tp_isLane_y (d := d) (q := q) (M := M) hl
      have g6 := fun M d q => tq_isSort_y (d := d) (q := q) (M := M) hl
      obtain ⟨e, he4, he0, hx0, hm0⟩ := tp_ag hs hk hl c n
      have m1 : ∀ b, jx_up M 0 9 0 (28 + 2 * k) b = M (28 + 2 * k) b := fun b => by rw [jx_upE, if_neg (by omega)]
      have g8 := fun d q => hx0 d q (jx_up M 0 9 0) m1
      by_cases hez : e = 0
      · subst hez
        obtain ⟨rfl, a1, i, m, rfl, rfl, him⟩ := he0 rfl
        obtain ⟨h1, h2, h3, h4, h5, h6, h7⟩ := id hs
        obtain ⟨D, hDe, hDo⟩ : ∃ D, D = 38 - o ∧ (o = 16 ∧ D = 22 ∨ o = 22 ∧ D = 16) := by
          rcases hoo with z | z
          · exact ⟨22, by rw [z], Or.inl ⟨z, rfl⟩⟩
          · exact ⟨16, by rw [z], Or.inr ⟨z, rfl⟩⟩
        rw [← hDe] at h07
        have hDO : tp_O D := by
          rcases hDo with z | z
          · exact Or.inr z.2
          · exact Or.inl z.2
        obtain ⟨p0, p1, p2, p3, p4, p5, w1, w2, w3, w4, w5⟩ := tp_Ot hDO
        have htt : tf_t (28 + 2 * k) i m D len := ⟨t1, t2, t3, by omega, by omega, him, h2, hDO⟩
        have n0 : (0 : Int32) = nI 0 := fa_lit 0
        have e7 : jx_rv (jx_up M 0 9 0 0 7) = .ref D := by rw [jx_upB (by decide), h07]; exact tp_rvn (by omega)
        have hx : ∀ q : Int32 → jx_M → Prop, (∀ M1 s1 a1, tf_all (fun j => M (28 + 2 * k + 1) (i + j)) m = (some s1, a1) → tf_fr D M1 (jx_up M 0 9 0) → tp_C M1 D s1 → q (nI (s1 0 1)) (jx_up (jx_up (jx_up M1 0 6 (nI D)) 0 7 (nI o)) 3 3 0)) → (∀ M1 a1, tf_all (fun j => M (28 + 2 * k + 1) (i + j)) m = (none, a1) → tf_fr D M1 (jx_up M 0 9 0) → q (-100 - nI a1) M1) → jx_I (d + 20) mX7_office [.ref 0, .int (nI k), .int (nI lane), .int (nI i), .int (nI m)] M q := by
          intro q hq1 hq0
          simp (disch := first | assumption | omega | decide) only [kX7_office, ↓eX7_office, ↓g3, ↓g5, t4, eX7_office, ↓g8, e7, jn_vin, jn_L, jn_eq, jn_LL, jo_ltT, jo_eqT, jo_eqF, jx_qI_a, if_true, if_false, true_and]
          refine tf_first (d := d + 13) (v := fun j => M (28 + 2 * k + 1) (i + j)) htt (by rw [m1]; exact h4) (fun j hj => jx_upA (by omega)) (fun M1 s1 a1 z1 z2 z3 => ?_) (fun M1 a1 z1 z2 => ?_)
          · have hqq := hq1 M1 s1 a1 z1 z2 z3
            have y6 : jx_rv (M1 0 6) = .ref o := by rw [z2 _ _ (by decide) (by omega), jx_upB (by decide), h06]; exact tp_rvn (by omega)
            have y7 : jx_rv (M1 0 7) = .ref D := by rw [z2 _ _ (by decide) (by omega), jx_upB (by decide), h07]; exact tp_rvn (by omega)
            have y8 : jx_rv (jx_up (jx_up (jx_up M1 0 6 (nI D)) 0 7 (nI o)) 3 3 0 0 6) = .ref D := by rw [jx_upA (by decide), jx_upB (by decide), jx_upS]; exact tp_rvn (by omega)
            have y9 : jx_up (jx_up (jx_up M1 0 6 (nI D)) 0 7 (nI o)) 3 3 0 D 6 = nI (s1 0 1) := by rw [jx_upA (by omega), jx_upA (by omega), jx_upA (by omega)]; exact z3.2.1
            simp (disch := first | assumption | omega | decide) only [jx_qI_a, jx_qV_a, jx_qL_a, jn_lt, jn_le, jn_eq, jn_L, jn_A, jn_N, jn_LL, jn_add, jn_mul, jn_sub, jn_cl, jn_vin, jn_shl1, jn_shr, jn_or, jn_l_or0, jn_and1, jo_ltT, jo_ltF, jo_leT, jo_leF, jo_eqT, jo_eqF, true_or, or_true, true_and, and_true, false_or, or_false, false_and, and_false, if_true, if_false, not_true_eq_false, not_false_eq_true, jx_tab, eX7_office, kX7_takeDraft, eX7_takeDraft, y6, y7, y8, y9, hqq]
          · have hle : a1 ≤ 60 := by
              have := tf_all_le (fun j => M (28 + 2 * k + 1) (i + j)) m
              rw [z1] at this
              exact this
            have hqq := hq0 M1 a1 z1 z2
            have ne9 : ¬ nI a1 = -9 := fun z => by
              have := nI_pos (n := a1) (by omega)
              rw [z] at this
              exact this (by decide)
            simp (disch := first | assumption | omega | decide) only [jx_qI_a, jx_qV_a, jx_qL_a, jn_lt, jn_le, jn_eq, jn_L, jn_A, jn_N, jn_LL, jn_add, jn_mul, jn_sub, jn_cl, jn_vin, jn_shl1, jn_shr, jn_or, jn_l_or0, jn_and1, jo_ltT, jo_ltF, jo_leT, jo_leF, jo_eqT, jo_eqF, true_or, or_true, true_and, and_true, false_or, or_false, false_and, and_false, if_true, if_false, not_true_eq_false, not_false_eq_true, jx_tab, eX7_office, ne9, hqq]
        have hm : ∀ (N : jx_M) (q : Int32 → jx_M → Prop), N 37 k = M 37 k → N 38 k = M 38 k → (∀ y, N 39 y = M 39 y) → (∀ M2 s1 a1, tf_all (fun j => M (28 + 2 * k + 1) (i + j)) m = (some s1, a1) → tp_D M2 s1 → M2 36 27 = 0 → (∀ x y, ¬ (x = 36 ∧ (5 ≤ y ∧ y ≤ 8 ∨ y = 27 ∨ 14 ≤ y ∧ y ≤ 18)) → ¬ (40 ≤ x ∧ x ≤ 49) → M2 x y = jx_up N 36 0 0 x y) → q (nI (s1 0 1)) M2) → (∀ M2 a1, tf_all (fun j => M (28 + 2 * k + 1) (i + j)) m = (none, a1) → tf_mf M2 (jx_up N 36 0 0) → q (-100 - nI a1) M2) → jx_I (d + 20) mX8_office [.ref 36, .int (nI k), .int (nI lane), .int (nI i), .int (nI m)] N q := by
          intro N q u1 u2 u3 hq1 hq0
          have g9 := fun d q => hm0 d q (jx_up N 36 0 0) (by rw [jx_upA (by decide)]; exact u1) (by rw [jx_upA (by decide)]; exact u2)
          have eb : (60 : Int32) * nI k + nI i = nI (60 * k + i) := by rw [jn_l_mul, jn_add]
          have hcc : tf_m (jx_up (jx_up N 36 0 0) 36 14 (nI (60 * k + i))) (60 * k + i) m (fun j => M (28 + 2 * k + 1) (i + j)) 0 := ⟨jx_upS _ _ _ _, fun j hj => by
            rw [jx_upA (by decide), jx_upA (by decide), u3, Nat.add_assoc]
            exact h7 (i + j) (by omega)⟩
          have ee : nI (60 * k + i) + nI m = nI (60 * k + i + m) := nI_add _ _
          have fr0 : tf_mf (jx_up (jx_up N 36 0 0) 36 14 (nI (60 * k + i))) (jx_up N 36 0 0) := tf_mf_up (by omega)
          simp (disch := first | assumption | omega | decide) only [kX8_office, ↓eX8_office, ↓g4, ↓g6, ↓g9, jn_L, jn_eq, jn_LL, jo_eqT, jo_eqF, eb, ee, jx_qI_a, if_true, if_false]
          refine tf_moffice (d := d + 16) (by omega) hcc (fun M1 s1 a1 z1 z2 z3 => ?_) (fun M1 a1 z1 z2 z3 => ?_)
          · have gt := tf_take (d := d + 19) (M := M1) (tf_all_rg z1) z3 (qv := fun M2 => q (M2 36 6) M2) (fun M2 y1 y2 y3 => by
              show q (M2 36 6) M2
              rw [y1.2.1]
              exact hq1 M2 s1 a1 z1 y1 y2 (fun x y w1 w2 => by
                have v1 : ¬ (x = 36 ∧ (5 ≤ y ∧ y ≤ 8 ∨ y = 27)) := by omega
                have v2 : ¬ (40 ≤ x ∧ x ≤ 44) := by omega
                have v3 : ¬ (x = 36 ∧ 14 ≤ y ∧ y ≤ 18) := by omega
                have v4 : ¬ (45 ≤ x ∧ x ≤ 49) := by omega
                rw [y3 x y v1 v2, z2 x y v3 v4, fr0 x y v3 v4]))
            simp (disch := first | assumption | omega | decide) only [jx_qI_a, jx_qV_a, jx_qL_a, jn_lt, jn_le, jn_eq, jn_L, jn_A, jn_N, jn_LL, jn_add, jn_mul, jn_sub, jn_cl, jn_vin, jn_shl1, jn_shr, jn_or, jn_l_or0, jn_and1, jo_ltT, jo_ltF, jo_leT, jo_leF, jo_eqT, jo_eqF, true_or, or_true, true_and, and_true, false_or, or_false, false_and, and_false, if_true, if_false, not_true_eq_false, not_false_eq_true, jx_tab, eX8_office]
            exact gt
          · have hle : a1 ≤ 60 := by
              have := tf_all_le (fun j => M (28 + 2 * k + 1) (i + j)) m
              rw [z1] at this
              exact this
            have hqq := hq0 M1 a1 z1 (z2.trans fr0)
            have es : 60 * k + i + a1 - (60 * k + i) = a1 := by omega
            simp (disch := first | assumption | omega | decide) only [jx_qI_a, jx_qV_a, jx_qL_a, jn_lt, jn_le, jn_eq, jn_L, jn_A, jn_N, jn_LL, jn_add, jn_mul, jn_sub, jn_cl, jn_vin, jn_shl1, jn_shr, jn_or, jn_l_or0, jn_and1, jo_ltT, jo_ltF, jo_leT, jo_leF, jo_eqT, jo_eqF, true_or, or_true, true_and, and_true, false_or, or_false, false_and, and_false, if_true, if_false, not_true_eq_false, not_false_eq_true, jx_tab, eX8_office, z3, es, hqq]
        refine hx _ (fun M1 s1 a1 z1 z2 z3 => hm _ _ ?_ ?_ (fun y => ?_) (fun M2 s2 a2 y1 y2 y3 y4 => ?_) (fun M2 a2 y1 y2 => ?_)) (fun M1 a1 z1 z2 => hm _ _ ?_ ?_ (fun y => ?_) (fun M2 s2 a2 y1 y2 y3 y4 => ?_) (fun M2 a2 y1 y2 => ?_))
        · rw [jx_upA (by decide), jx_upA (by decide), jx_upA (by decide), z2 _ _ (by decide) (by omega), jx_upA (by decide)]
        · rw [jx_upA (by decide), jx_upA (by decide), jx_upA (by decide), z2 _ _ (by decide) (by omega), jx_upA (by decide)]
        · rw [jx_upA (by decide), jx_upA (by decide), jx_upA (by decide), z2 _ _ (by decide) (by omega), jx_upA (by decide)]
        · rw [z1] at y1
          cases y1
          have ev : ∀ x y, ¬ (x = 36 ∧ (5 ≤ y ∧ y ≤ 8 ∨ y = 27 ∨ 14 ≤ y ∧ y ≤ 18)) → ¬ (40 ≤ x ∧ x ≤ 49) → ¬ x = 2 → ¬ (D ≤ x ∧ x ≤ D + 5) → ¬ (x = 0 ∧ (y = 6 ∨ y = 7)) → ¬ (x = 3 ∧ y = 3) → M2 x y = jx_up (jx_up M 0 9 0) 36 0 0 x y := fun x y v1 v2 v3 v4 v5 v6 => by
            rw [y4 x y v1 v2, jx_upE, jx_upE (k := 36)]
            by_cases e36 : x = 36 ∧ y = 0
            · rw [if_pos e36, if_pos e36]
            · rw [if_neg e36, if_neg e36, jx_upE (k := 3), if_neg v6, jx_upE (k := 0), if_neg (by omega), jx_upE (k := 0), if_neg (by omega), z2 x y v3 v4]
          have evD : ∀ x y, D ≤ x ∧ x ≤ D + 5 → M2 x y = M1 x y := fun x y v1 => by
            rw [y4 x y (by omega) (by omega), jx_upA (by omega), jx_upA (by omega), jx_upA (by omega), jx_upA (by omega)]
          refine ⟨rfl, s1, D, hDO, ?_, ?_, tf_all_rg z1, tp_C_fr z3 (fun x y q1 q2 => evD x y ⟨q1, q2⟩), y2, ?_, ?_, ⟨0, by omega, ?_, y3, fun j hj => by omega⟩, tp_sh_fr hsh (fun x y q1 q2 q3 => ?_)⟩
          · rw [y4 _ _ (by omega) (by omega), jx_upA (by decide), jx_upA (by decide), jx_upB (by decide), jx_upS]
          · rw [y4 _ _ (by omega) (by omega), jx_upA (by decide), jx_upA (by decide), jx_upS, show 38 - D = o by omega]
          · rw [ev _ _ (by omega) (by omega) (by omega) (by omega) (by omega) (by omega), ev _ _ (by omega) (by omega) (by omega) (by omega) (by omega) (by omega)]
            exact hJ0.2.2.2.2.2.2.1
          · rw [ev _ _ (by omega) (by omega) (by omega) (by omega) (by omega) (by omega), ev _ _ (by omega) (by omega) (by omega) (by omega) (by omega) (by omega)]
            exact hJ0.2.2.2.2.2.2.2.1
          · rw [y4 _ _ (by omega) (by omega), jx_upA (by decide), jx_upS]; exact n0
          · rw [ev _ _ (by omega) (by omega) (by omega) (by omega) (by omega) (by omega), jx_upA q3, jx_upA (by omega)]
        · rw [z1] at y1; cases y1
        · rw [z2 _ _ (by decide) (by omega), jx_upA (by decide)]
        · rw [z2 _ _ (by decide) (by omega), jx_upA (by decide)]
        · rw [z2 _ _ (by decide) (by omega), jx_upA (by decide)]
        · rw [z1] at y1; cases y1
        · rw [z1] at y1
          cases y1
          refine ⟨rfl, s, o, tp_J_fr hJ0 (fun x y hc => ?_)⟩
          have hc' : (x = 0 ∧ 6 ≤ y ∧ y ≤ 9) ∨ (o ≤ x ∧ x ≤ o + 5) ∨ (x = 36 ∧ (y ≤ 8 ∨ y = 27)) ∨ (40 ≤ x ∧ x ≤ 44) ∨ (3 ≤ x ∧ x ≤ 6) ∨ (53 ≤ x ∧ x ≤ 55) ∨ (28 ≤ x ∧ x ≤ 39 ∧ x ≠ 36) := hc
          have v1 : ¬ (x = 36 ∧ 14 ≤ y ∧ y ≤ 18) := by omega
          have v2 : ¬ (45 ≤ x ∧ x ≤ 49) := by omega
          have v3 : x ≠ 2 := by omega
          have v4 : ¬ (D ≤ x ∧ x ≤ D + 5) := by omega
          rw [y2 x y v1 v2, jx_upE, jx_upE (k := 36)]
          by_cases e36 : x = 36 ∧ y = 0
          · rw [if_pos e36, if_pos e36]
          · rw [if_neg e36, if_neg e36, z2 x y v3 v4]
      · have hx : ∀ q : Int32 → jx_M → Prop, q (-10 - nI e) (jx_up (jx_up M 0 9 0) 0 9 (nI e)) → jx_I (d + 20) mX7_office [.ref 0, .int (nI k), .int (nI ln), .int c, .int n] M q := by
          intro q hq
          simp (disch := first | assumption | omega | decide) only [kX7_office, ↓eX7_office, ↓g3, ↓g5, t4, eX7_office, ↓g8, jn_vin, jn_L, jo_ltT, jo_eqF, jx_qI_a, jn_LL, if_true, if_false, true_and, ↓tp_faultAnswer, hq]
        have hm : ∀ q : Int32 → jx_M → Prop, q (-10 - nI e) (jx_up (jx_up (jx_up (jx_up M 0 9 0) 0 9 (nI e)) 36 0 0) 36 0 (nI e)) → jx_I (d + 20) mX8_office [.ref 36, .int (nI k), .int (nI ln), .int c, .int n] (jx_up (jx_up M 0 9 0) 0 9 (nI e)) q := by
          intro q hq
          have g9 := fun d q => hm0 d q (jx_up (jx_up (jx_up M 0 9 0) 0 9 (nI e)) 36 0 0) (by simp only [jx_upE]; rw [if_neg (by omega), if_neg (by omega), if_neg (by omega)]) (by simp only [jx_upE]; rw [if_neg (by omega), if_neg (by omega), if_neg (by omega)])
          simp (disch := first | assumption | omega | decide) only [kX8_office, ↓eX8_office, ↓g4, ↓g6, ↓g9, jn_L, jo_ltT, jo_ltF, jo_eqF, jx_qI_a, jn_LL, if_true, if_false, ↓tq_fails, hq]
        exact hx _ (hm _ ⟨rfl, s, o, tp_J_f (nI e) hJ (by simp [jx_upE]) (by simp [jx_upE]) (fun a b q1 q2 => by simp only [jx_upE, if_neg q1, if_neg q2])⟩)
end TG6
