/-! put, cell, copy -/
section TPO6
variable {d : Nat} {M : jx_M} {q : Int32 → jx_M → Prop}
def tp_cut (lane : Nat) (v : Int32) : Int32 := if lane = 0 then v.toInt8.toInt32 else if lane = 1 then v.toInt16.toInt32 else v
theorem op_put (h : tp_I M) (a b c : Int32) : jx_I (d + 20) mX7_put [.ref 0, .int a, .int b, .int c] M (fun r M1 => jx_I (d + 20) mX8_put [.ref 36, .int a, .int b, .int c] M1 (fun r2 M2 => r = r2 ∧ tp_I M2)) := by
  obtain ⟨s, o, hJ⟩ := h
  obtain ⟨ho, h06, h07, hr, hC, hD, hf, ht, hrd, hsh⟩ := id hJ
  have fin0 : tp_I (jx_up (jx_up M 0 9 0) 36 0 0) := ⟨s, o, tp_J_f 0 hJ (by simp [jx_upE]) (by simp [jx_upE]) (fun a b q1 q2 => by simp only [jx_upE, if_neg q1, if_neg q2])⟩
  have fin : ∀ x, tp_I (jx_up (jx_up (jx_up (jx_up M 0 9 0) 0 9 x) 36 0 0) 36 0 x) := fun x => ⟨s, o, tp_J_f x hJ (by simp [jx_upE]) (by simp [jx_upE]) (fun a b q1 q2 => by simp only [jx_upE, if_neg q1, if_neg q2])⟩
  rcases jx_ix a (n := 4) (by omega) with hn | ⟨k, hk, rfl⟩
  · have g3 := fun M d q => tp_isSheet_n (d := d) (q := q) (M := M) hn
    have g4 := fun M d q => tq_isSheet_n (d := d) (q := q) (M := M) hn
    have hx : ∀ q : Int32 → jx_M → Prop, q (-1) (jx_up M 0 9 0) → jx_I (d + 20) mX7_put [.ref 0, .int a, .int b, .int c] M q := by
      intro q hq
      simp (disch := first | assumption | omega | decide) only [jx_qI_a, jx_qV_a, jx_qL_a, jn_LL, true_or, or_true, true_and, and_true, false_or, or_false, false_and, and_false, if_true, if_false, not_true_eq_false, not_false_eq_true, jx_tab, kX7_put, eX7_put, g3, hq]
    have hm : ∀ q : Int32 → jx_M → Prop, q (-1) (jx_up (jx_up M 0 9 0) 36 0 0) → jx_I (d + 20) mX8_put [.ref 36, .int a, .int b, .int c] (jx_up M 0 9 0) q := by
      intro q hq
      simp (disch := first | assumption | omega | decide) only [jx_qI_a, jx_qV_a, jx_qL_a, jn_LL, true_or, or_true, true_and, and_true, false_or, or_false, false_and, and_false, if_true, if_false, not_true_eq_false, not_false_eq_true, jx_tab, kX8_put, eX8_put, g4, hq]
    exact hx _ (hm _ ⟨rfl, fin0⟩)
  · have g3 := fun M d q => tp_isSheet_y (d := d) (q := q) (M := M) hk
    have g4 := fun M d q => tq_isSheet_y (d := d) (q := q) (M := M) hk
    obtain ⟨t1, t2, t3, t4⟩ := tp_St hk
    obtain ⟨lane, len, hs⟩ := hsh k hk
    obtain ⟨h1, h2, h3, h4, h5, h6, h7⟩ := id hs
    have m1 : ∀ b, jx_up M 0 9 0 (28 + 2 * k) b = M (28 + 2 * k) b := fun b => by rw [jx_upE, if_neg (by omega)]
    have m37 : ∀ N : jx_M, N 37 k = M 37 k → jx_up N 36 0 0 37 k = M 37 k := fun N e => by rw [jx_upE, if_neg (by omega)]; exact e
    have m38 : ∀ N : jx_M, N 38 k = M 38 k → jx_up N 36 0 0 38 k = M 38 k := fun N e => by rw [jx_upE, if_neg (by omega)]; exact e
    rcases h6 with ⟨a1, a2⟩ | ⟨a1, a2⟩
    · have hx : ∀ q : Int32 → jx_M → Prop, q (-10 - 1) (jx_up (jx_up M 0 9 0) 0 9 1) → jx_I (d + 20) mX7_put [.ref 0, .int (nI k), .int b, .int c] M q := by
        intro q hq
        simp (disch := first | assumption | omega | decide) only [jx_qI_a, jx_qV_a, jx_qL_a, jn_lt, jn_le, jn_eq, jn_L, jn_A, jn_N, jn_LL, jn_add, jn_mul, jn_sub, jn_cl, jn_vin, jn_shl1, jn_shr, jn_or, jn_l_or0, jn_and1, jo_ltT, jo_ltF, jo_leT, jo_leF, jo_eqT, jo_eqF, true_or, or_true, true_and, and_true, false_or, or_false, false_and, and_false, if_true, if_false, not_true_eq_false, not_false_eq_true, jx_tab, kX7_put, eX7_put, g3, t4, m1, a1, tp_faultAnswer, hq]
      have hm : ∀ q : Int32 → jx_M → Prop, q (-10 - 1) (jx_up (jx_up (jx_up (jx_up M 0 9 0) 0 9 1) 36 0 0) 36 0 1) → jx_I (d + 20) mX8_put [.ref 36, .int (nI k), .int b, .int c] (jx_up (jx_up M 0 9 0) 0 9 1) q := by
        intro q hq
        have e := m37 (jx_up (jx_up M 0 9 0) 0 9 1) (by simp only [jx_upE]; rw [if_neg (by omega), if_neg (by omega)])
        simp (disch := first | assumption | omega | decide) only [jx_qI_a, jx_qV_a, jx_qL_a, jn_lt, jn_le, jn_eq, jn_L, jn_A, jn_N, jn_LL, jn_add, jn_mul, jn_sub, jn_cl, jn_vin, jn_shl1, jn_shr, jn_or, jn_l_or0, jn_and1, jo_ltT, jo_ltF, jo_leT, jo_leF, jo_eqT, jo_eqF, true_or, or_true, true_and, and_true, false_or, or_false, false_and, and_false, if_true, if_false, not_true_eq_false, not_false_eq_true, jx_tab, kX8_put, eX8_put, g4, e, a2, tq_fails, hq]
      exact hx _ (hm _ ⟨rfl, fin 1⟩)
    · have g5 := fun d q => tp_hasCells (d := d) (q := q) (M := jx_up M 0 9 0) t1 (by rw [m1]; exact h4) h2 b 1
      have e1 : (1 : Int32).toInt = 1 := by decide
      rcases jx_ix b (n := len) (by omega) with hn | ⟨i, hi, rfl⟩
      · have g6 : ∀ d q, jx_I d mX4_hasCells [.ref (28 + 2 * k), .int b, .int 1] (jx_up M 0 9 0) q ↔ q 0 (jx_up M 0 9 0) := by
          intro d q
          rw [g5, if_neg]
          rintro ⟨-, q1, q2⟩
          rw [e1] at q2
          rcases hn with hn | hn
          · rw [fa_lt] at hn
            exact absurd hn (by show ¬ b.toInt < 0; omega)
          · rw [fa_le, nI_toInt (by omega)] at hn
            omega
        have hx : ∀ q : Int32 → jx_M → Prop, q (-10 - 3) (jx_up (jx_up M 0 9 0) 0 9 3) → jx_I (d + 20) mX7_put [.ref 0, .int (nI k), .int b, .int c] M q := by
          intro q hq
          simp (disch := first | assumption | omega | decide) only [jx_qI_a, jx_qV_a, jx_qL_a, jn_lt, jn_le, jn_eq, jn_L, jn_A, jn_N, jn_LL, jn_add, jn_mul, jn_sub, jn_cl, jn_vin, jn_shl1, jn_shr, jn_or, jn_l_or0, jn_and1, jo_ltT, jo_ltF, jo_leT, jo_leF, jo_eqT, jo_eqF, true_or, or_true, true_and, and_true, false_or, or_false, false_and, and_false, if_true, if_false, not_true_eq_false, not_false_eq_true, jx_tab, kX7_put, eX7_put, g3, t4, m1, a1, g6, tp_faultAnswer, hq]
        have hm : ∀ q : Int32 → jx_M → Prop, q (-10 - 3) (jx_up (jx_up (jx_up (jx_up M 0 9 0) 0 9 3) 36 0 0) 36 0 3) → jx_I (d + 20) mX8_put [.ref 36, .int (nI k), .int b, .int c] (jx_up (jx_up M 0 9 0) 0 9 3) q := by
          intro q hq
          have e := m37 (jx_up (jx_up M 0 9 0) 0 9 3) (by simp only [jx_upE]; rw [if_neg (by omega), if_neg (by omega)])
          have e' := m38 (jx_up (jx_up M 0 9 0) 0 9 3) (by simp only [jx_upE]; rw [if_neg (by omega), if_neg (by omega)])
          by_cases hb : b < 0
          · simp (disch := first | assumption | omega | decide) only [jx_qI_a, jx_qV_a, jx_qL_a, jn_lt, jn_le, jn_eq, jn_L, jn_A, jn_N, jn_LL, jn_add, jn_mul, jn_sub, jn_cl, jn_vin, jn_shl1, jn_shr, jn_or, jn_l_or0, jn_and1, jo_ltT, jo_ltF, jo_leT, jo_leF, jo_eqT, jo_eqF, true_or, or_true, true_and, and_true, false_or, or_false, false_and, and_false, if_true, if_false, not_true_eq_false, not_false_eq_true, jx_tab, kX8_put, eX8_put, g4, e, e', h5, a2, tq_within, hb, tq_fails, hq]
          · have hb2 := hn.resolve_left hb
            have hb3 : nI len - 1 < b := by
              rw [fa_le, nI_toInt (by omega)] at hb2
              rw [fa_lt]
              have : (nI len - 1).toInt = (len : Int) - 1 := pk_sub_toInt (b := 1) (by omega) (by decide)
              omega
            by_cases hl0 : 1 ≤ len
            · rw [jn_sub_l hl0] at hb3
              simp (disch := first | assumption | omega | decide) only [jx_qI_a, jx_qV_a, jx_qL_a, jn_lt, jn_le, jn_eq, jn_L, jn_A, jn_N, jn_LL, jn_add, jn_mul, jn_sub, jn_cl, jn_vin, jn_shl1, jn_shr, jn_or, jn_l_or0, jn_and1, jo_ltT, jo_ltF, jo_leT, jo_leF, jo_eqT, jo_eqF, true_or, or_true, true_and, and_true, false_or, or_false, false_and, and_false, if_true, if_false, not_true_eq_false, not_false_eq_true, jx_tab, kX8_put, eX8_put, g4, e, e', h5, a2, tq_within, hb, hb3, tq_fails, hq]
            · have hl1 : len = 0 := by omega
              subst hl1
              simp (disch := first | assumption | omega | decide) only [jx_qI_a, jx_qV_a, jx_qL_a, jn_LL, true_or, or_true, true_and, and_true, false_or, or_false, false_and, and_false, if_true, if_false, not_true_eq_false, not_false_eq_true, jx_tab, kX8_put, eX8_put, g4, e, e', h5, jn_N, jn_eq, a2, tq_within, hb, hb3, jn_vin, jn_cl, jo_ltT, tq_fails, hq]
        exact hx _ (hm _ ⟨rfl, fin 3⟩)
      · have g6 : ∀ d q, jx_I d mX4_hasCells [.ref (28 + 2 * k), .int (nI i), .int 1] (jx_up M 0 9 0) q ↔ q 1 (jx_up M 0 9 0) := by
          intro d q
          rw [g5, if_pos]
          rw [e1, nI_toInt (by omega)]
          omega
        have hx : ∀ q : Int32 → jx_M → Prop, q 1 (jx_up (jx_up M 0 9 0) (28 + 2 * k + 1) i (tp_cut lane c)) → jx_I (d + 20) mX7_put [.ref 0, .int (nI k), .int (nI i), .int c] M q := by
          intro q hq
          unfold tp_cut at hq
          rcases (show lane = 0 ∨ lane = 1 ∨ lane = 2 by omega) with rfl | rfl | rfl
          · simp only [if_true] at hq
            simp (disch := first | assumption | omega | decide) only [jx_qI_a, jx_qV_a, jx_qL_a, jn_lt, jn_le, jn_eq, jn_L, jn_A, jn_N, jn_LL, jn_add, jn_mul, jn_sub, jn_cl, jn_vin, jn_shl1, jn_shr, jn_or, jn_l_or0, jn_and1, jo_ltT, jo_ltF, jo_leT, jo_leF, jo_eqT, jo_eqF, true_or, or_true, true_and, and_true, false_or, or_false, false_and, and_false, if_true, if_false, not_true_eq_false, not_false_eq_true, jx_tab, kX7_put, eX7_put, g3, t4, m1, a1, g6, kX4_write, eX4_write, h3, h4, t3, hq]
          · rw [if_neg (by decide), if_pos rfl] at hq
            simp (disch := first | assumption | omega | decide) only [jx_qI_a, jx_qV_a, jx_qL_a, jn_lt, jn_le, jn_eq, jn_L, jn_A, jn_N, jn_LL, jn_add, jn_mul, jn_sub, jn_cl, jn_vin, jn_shl1, jn_shr, jn_or, jn_l_or0, jn_and1, jo_ltT, jo_ltF, jo_leT, jo_leF, jo_eqT, jo_eqF, true_or, or_true, true_and, and_true, false_or, or_false, false_and, and_false, if_true, if_false, not_true_eq_false, not_false_eq_true, jx_tab, kX7_put, eX7_put, g3, t4, m1, a1, g6, kX4_write, eX4_write, h3, h4, t3, hq]
          · rw [if_neg (by decide), if_neg (by decide)] at hq
            simp (disch := first | assumption | omega | decide) only [jx_qI_a, jx_qV_a, jx_qL_a, jn_lt, jn_le, jn_eq, jn_L, jn_A, jn_N, jn_LL, jn_add, jn_mul, jn_sub, jn_cl, jn_vin, jn_shl1, jn_shr, jn_or, jn_l_or0, jn_and1, jo_ltT, jo_ltF, jo_leT, jo_leF, jo_eqT, jo_eqF, true_or, or_true, true_and, and_true, false_or, or_false, false_and, and_false, if_true, if_false, not_true_eq_false, not_false_eq_true, jx_tab, kX7_put, eX7_put, g3, t4, m1, a1, g6, kX4_write, eX4_write, h3, h4, t3, hq]
        have hm : ∀ N : jx_M, N 37 k = M 37 k → N 38 k = M 38 k → ∀ q : Int32 → jx_M → Prop, q 1 (jx_up (jx_up N 36 0 0) 39 (60 * k + i) (tp_cut lane c)) → jx_I (d + 20) mX8_put [.ref 36, .int (nI k), .int (nI i), .int c] N q := by
          intro N n1 n2 q hq
          have e := m37 N n1
          have e' := m38 N n2
          unfold tp_cut at hq
          rcases (show lane = 0 ∨ lane = 1 ∨ lane = 2 by omega) with rfl | rfl | rfl
          · simp only [if_true] at hq
            simp (disch := first | assumption | omega | decide) only [jx_qI_a, jx_qV_a, jx_qL_a, jn_lt, jn_le, jn_eq, jn_L, jn_A, jn_N, jn_LL, jn_add, jn_mul, jn_sub, jn_cl, jn_vin, jn_shl1, jn_shr, jn_or, jn_l_or0, jn_and1, jo_ltT, jo_ltF, jo_leT, jo_leF, jo_eqT, jo_eqF, true_or, or_true, true_and, and_true, false_or, or_false, false_and, and_false, if_true, if_false, not_true_eq_false, not_false_eq_true, jx_tab, kX8_put, eX8_put, g4, e, e', h5, a2, tq_within, hq]
          · rw [if_neg (by decide), if_pos rfl] at hq
            simp (disch := first | assumption | omega | decide) only [jx_qI_a, jx_qV_a, jx_qL_a, jn_lt, jn_le, jn_eq, jn_L, jn_A, jn_N, jn_LL, jn_add, jn_mul, jn_sub, jn_cl, jn_vin, jn_shl1, jn_shr, jn_or, jn_l_or0, jn_and1, jo_ltT, jo_ltF, jo_leT, jo_leF, jo_eqT, jo_eqF, true_or, or_true, true_and, and_true, false_or, or_false, false_and, and_false, if_true, if_false, not_true_eq_false, not_false_eq_true, jx_tab, kX8_put, eX8_put, g4, e, e', h5, a2, tq_within, hq]
          · rw [if_neg (by decide), if_neg (by decide)] at hq
            simp (disch := first | assumption | omega | decide) only [jx_qI_a, jx_qV_a, jx_qL_a, jn_lt, jn_le, jn_eq, jn_L, jn_A, jn_N, jn_LL, jn_add, jn_mul, jn_sub, jn_cl, jn_vin, jn_shl1, jn_shr, jn_or, jn_l_or0, jn_and1, jo_ltT, jo_ltF, jo_leT, jo_leF, jo_eqT, jo_eqF, true_or, or_true, true_and, and_true, false_or, or_false, false_and, and_false, if_true, if_false, not_true_eq_false, not_false_eq_true, jx_tab, kX8_put, eX8_put, g4, e, e', h5, a2, tq_within, hq]
        refine hx _ (hm _ ?_ ?_ _ ⟨rfl, s, o, tp_J_s hJ (fun j hj => ?_) ?_ (fun a b q1 q2 q3 => ?_)⟩)
        · simp only [jx_upE]; rw [if_neg (by omega), if_neg (by omega)]
        · simp only [jx_upE]; rw [if_neg (by omega), if_neg (by omega)]
        · by_cases hjk : j = k
          · subst hjk
            refine ⟨lane, len, h1, h2, ?_, ?_, ?_, Or.inr ⟨?_, ?_⟩, fun i' hi' => ?_⟩
            · simp only [jx_upE]; rw [if_neg (by omega), if_neg (by omega), if_neg (by omega), if_neg (by omega)]; exact h3
            · simp only [jx_upE]; rw [if_neg (by omega), if_neg (by omega), if_neg (by omega), if_neg (by omega)]; exact h4
            · simp only [jx_upE]; rw [if_neg (by omega), if_neg (by omega), if_neg (by omega), if_neg (by omega)]; exact h5
            · simp only [jx_upE]; rw [if_neg (by omega), if_neg (by omega), if_neg (by omega), if_neg (by omega)]; exact a1
            · simp only [jx_upE]; rw [if_neg (by omega), if_neg (by omega), if_neg (by omega), if_neg (by omega)]; exact a2
            · by_cases hii : i' = i
              · subst hii
                rw [jx_upE, if_pos ⟨rfl, rfl⟩, jx_upE, if_neg (by omega), jx_upE, if_neg (by omega), jx_upE, if_pos ⟨rfl, rfl⟩]
              · simp only [jx_upE]
                rw [if_neg (by omega), if_neg (by omega), if_neg (by omega), if_neg (by omega), if_neg (by omega), if_neg (by omega), if_neg (by omega), if_neg (by omega)]
                exact h7 i' hi'
          · obtain ⟨lane', len', hs'⟩ := hsh j hj
            exact ⟨lane', len', tp_s1_f2 hs' (fun b => by simp only [jx_upE]; rw [if_neg (by omega), if_neg (by omega), if_neg (by omega), if_neg (by omega)]) (fun b => by simp only [jx_upE]; rw [if_neg (by omega), if_neg (by omega), if_neg (by omega), if_neg (by omega)]) (by simp only [jx_upE]; rw [if_neg (by omega), if_neg (by omega), if_neg (by omega), if_neg (by omega)]) (by simp only [jx_upE]; rw [if_neg (by omega), if_neg (by omega), if_neg (by omega), if_neg (by omega)]) (fun i hi => by simp only [jx_upE]; rw [if_neg (by omega), if_neg (by omega), if_neg (by omega), if_neg (by omega)])⟩
        · rw [jx_upE, if_neg (by omega), jx_upE, if_pos ⟨rfl, rfl⟩, jx_upE, if_neg (by omega), jx_upE, if_neg (by omega), jx_upE, if_neg (by omega), jx_upE, if_pos ⟨rfl, rfl⟩]
        · simp only [jx_upE]
          rw [if_neg (by omega), if_neg (by omega), if_neg (by omega), if_neg (by omega)]
theorem op_cell (h : tp_I M) (a b c : Int32) : jx_L (d + 20) mX7_cell [.ref 0, .int a, .int b, .int c] M (fun r M1 => jx_L (d + 20) mX8_cell [.ref 36, .int a, .int b, .int c] M1 (fun r2 M2 => r = r2 ∧ tp_I M2)) := by
  obtain ⟨s, o, hJ⟩ := h
  obtain ⟨ho, h06, h07, hr, hC, hD, hf, ht, hrd, hsh⟩ := id hJ
  have fin0 : tp_I (jx_up (jx_up M 0 9 0) 36 0 0) := ⟨s, o, tp_J_f 0 hJ (by simp [jx_upE]) (by simp [jx_upE]) (fun a b q1 q2 => by simp only [jx_upE, if_neg q1, if_neg q2])⟩
  have fin : ∀ x, tp_I (jx_up (jx_up (jx_up (jx_up M 0 9 0) 0 9 x) 36 0 0) 36 0 x) := fun x => ⟨s, o, tp_J_f x hJ (by simp [jx_upE]) (by simp [jx_upE]) (fun a b q1 q2 => by simp only [jx_upE, if_neg q1, if_neg q2])⟩
  rcases jx_ix a (n := 4) (by omega) with hn | ⟨k, hk, rfl⟩
  · have g3 := fun M d q => tp_isSheet_n (d := d) (q := q) (M := M) hn
    have g4 := fun M d q => tq_isSheet_n (d := d) (q := q) (M := M) hn
    have hx : ∀ q : Int64 → jx_M → Prop, q (-9223372036854775808) (jx_up M 0 9 0) → jx_L (d + 20) mX7_cell [.ref 0, .int a, .int b, .int c] M q := by
      intro q hq
      simp (disch := first | assumption | omega | decide) only [jx_qI_a, jx_qV_a, jx_qL_a, jn_LL, true_or, or_true, true_and, and_true, false_or, or_false, false_and, and_false, if_true, if_false, not_true_eq_false, not_false_eq_true, jx_tab, kX7_cell, eX7_cell, g3, hq]
    have hm : ∀ q : Int64 → jx_M → Prop, q (-9223372036854775808) (jx_up (jx_up M 0 9 0) 36 0 0) → jx_L (d + 20) mX8_cell [.ref 36, .int a, .int b, .int c] (jx_up M 0 9 0) q := by
      intro q hq
      simp (disch := first | assumption | omega | decide) only [jx_qI_a, jx_qV_a, jx_qL_a, jn_LL, true_or, or_true, true_and, and_true, false_or, or_false, false_and, and_false, if_true, if_false, not_true_eq_false, not_false_eq_true, jx_tab, kX8_cell, eX8_cell, g4, hq]
    exact hx _ (hm _ ⟨rfl, fin0⟩)
  · have g3 := fun M d q => tp_isSheet_y (d := d) (q := q) (M := M) hk
    have g4 := fun M d q => tq_isSheet_y (d := d) (q := q) (M := M) hk
    obtain ⟨t1, t2, t3, t4⟩ := tp_St hk
    obtain ⟨lane, len, hs⟩ := hsh k hk
    rcases jx_ix c (n := 3) (by omega) with hn | ⟨ln, hl, rfl⟩
    · have g5 := fun M d q => tp_isLane_n (d := d) (q := q) (M := M) hn
      have g6 := fun M d q => tq_isSort_n (d := d) (q := q) (M := M) hn
      have hx : ∀ q : Int64 → jx_M → Prop, q (-9223372036854775808) (jx_up M 0 9 0) → jx_L (d + 20) mX7_cell [.ref 0, .int (nI k), .int b, .int c] M q := by
        intro q hq
        simp (disch := first | assumption | omega | decide) only [jx_qI_a, jx_qV_a, jx_qL_a, jn_LL, true_or, or_true, true_and, and_true, false_or, or_false, false_and, and_false, if_true, if_false, not_true_eq_false, not_false_eq_true, jx_tab, kX7_cell, eX7_cell, g3, g5, hq]
      have hm : ∀ q : Int64 → jx_M → Prop, q (-9223372036854775808) (jx_up (jx_up M 0 9 0) 36 0 0) → jx_L (d + 20) mX8_cell [.ref 36, .int (nI k), .int b, .int c] (jx_up M 0 9 0) q := by
        intro q hq
        simp (disch := first | assumption | omega | decide) only [jx_qI_a, jx_qV_a, jx_qL_a, jn_LL, true_or, or_true, true_and, and_true, false_or, or_false, false_and, and_false, if_true, if_false, not_true_eq_false, not_false_eq_true, jx_tab, kX8_cell, eX8_cell, g4, g6, hq]
      exact hx _ (hm _ ⟨rfl, fin0⟩)
    · have g5 := fun M d q => tp_isLane_y (d := d) (q := q) (M := M) hl
      have g6 := fun M d q => tq_isSort_y (d := d) (q := q) (M := M) hl
      obtain ⟨e, he4, he0, hx0, -⟩ := tp_ag hs hk hl b 1
      have m1 : ∀ b, jx_up M 0 9 0 (28 + 2 * k) b = M (28 + 2 * k) b := fun b => by rw [jx_upE, if_neg (by omega)]
      have g7 := fun d q => hx0 d q (jx_up M 0 9 0) m1
      have u9 : ∀ (N : jx_M) x, jx_up N 0 9 x 0 9 = x := fun N x => by simp [jx_upE]
      obtain ⟨h1, h2, h3, h4, h5, h6, h7⟩ := id hs
      have m37 : ∀ x, jx_up (jx_up (jx_up M 0 9 0) 0 9 x) 36 0 0 37 k = M 37 k := fun x => by simp only [jx_upE]; rw [if_neg (by omega), if_neg (by omega), if_neg (by omega)]
      have m38 : ∀ x, jx_up (jx_up (jx_up M 0 9 0) 0 9 x) 36 0 0 38 k = M 38 k := fun x => by simp only [jx_upE]; rw [if_neg (by omega), if_neg (by omega), if_neg (by omega)]
      have ml : ∀ (x : Int32) (q : Int64 → jx_M → Prop) (N : jx_M) d, jx_L d mX8_lost [.ref 36, .int x] N q ↔ q (-9223372036854775808) (jx_up N 36 0 x) := fun x q N d => by
        simp (disch := first | assumption | omega | decide) only [jx_qI_a, jx_qV_a, jx_qL_a, jn_LL, true_or, or_true, true_and, and_true, false_or, or_false, false_and, and_false, if_true, if_false, not_true_eq_false, not_false_eq_true, jx_tab, kX8_lost, eX8_lost]
      by_cases hez : e = 0
      · obtain ⟨rfl, a1, i, n, rfl, hn1, hin⟩ := he0 hez
        have hn1' : n = 1 := by
          have : (1 : Int32) = nI 1 := fa_lit 1
          rw [this] at hn1
          have hn2 : nI n = nI 1 := hn1.symm
          exact (jn_eq (by omega) (by omega)).mp hn2
        subst hn1'
        subst hez
        have a2 : M 37 k = nI lane := by
          rcases h6 with ⟨q1, -⟩ | ⟨-, q2⟩
          · rw [a1] at q1; exact absurd q1 (by decide)
          · exact q2
        have m2 : ∀ x b, jx_up (jx_up M 0 9 0) 0 9 x (28 + 2 * k) b = M (28 + 2 * k) b := fun x b => by simp only [jx_upE]; rw [if_neg (by omega), if_neg (by omega)]
        have m3 : ∀ x b, jx_up (jx_up M 0 9 0) 0 9 x (28 + 2 * k + 1) b = M (28 + 2 * k + 1) b := fun x b => by simp only [jx_upE]; rw [if_neg (by omega), if_neg (by omega)]
        have m4 : ∀ x, jx_up (jx_up (jx_up M 0 9 0) 0 9 x) 36 0 0 39 (60 * k + i) = M (28 + 2 * k + 1) i := fun x => by simp only [jx_upE]; rw [if_neg (by omega), if_neg (by omega), if_neg (by omega)]; exact h7 i (by omega)
        have hx : ∀ q : Int64 → jx_M → Prop, q (M (28 + 2 * k + 1) i).toInt64 (jx_up (jx_up M 0 9 0) 0 9 (nI 0)) → jx_L (d + 20) mX7_cell [.ref 0, .int (nI k), .int (nI i), .int (nI lane)] M q := by
          intro q hq
          simp (disch := first | assumption | omega | decide) only [jx_qI_a, jx_qV_a, jx_qL_a, jn_lt, jn_le, jn_eq, jn_L, jn_A, jn_N, jn_LL, jn_add, jn_mul, jn_sub, jn_cl, jn_vin, jn_shl1, jn_shr, jn_or, jn_l_or0, jn_and1, jo_ltT, jo_ltF, jo_leT, jo_leF, jo_eqT, jo_eqF, true_or, or_true, true_and, and_true, false_or, or_false, false_and, and_false, if_true, if_false, not_true_eq_false, not_false_eq_true, jx_tab, kX7_cell, eX7_cell, g3, g5, t4, g7, u9, kX4_read, eX4_read, m2, m3, h4, t3, hq]
        have hm : ∀ q : Int64 → jx_M → Prop, q (M (28 + 2 * k + 1) i).toInt64 (jx_up (jx_up (jx_up M 0 9 0) 0 9 (nI 0)) 36 0 0) → jx_L (d + 20) mX8_cell [.ref 36, .int (nI k), .int (nI i), .int (nI lane)] (jx_up (jx_up M 0 9 0) 0 9 (nI 0)) q := by
          intro q hq
          simp (disch := first | assumption | omega | decide) only [jx_qI_a, jx_qV_a, jx_qL_a, jn_lt, jn_le, jn_eq, jn_L, jn_A, jn_N, jn_LL, jn_add, jn_mul, jn_sub, jn_cl, jn_vin, jn_shl1, jn_shr, jn_or, jn_l_or0, jn_and1, jo_ltT, jo_ltF, jo_leT, jo_leF, jo_eqT, jo_eqF, true_or, or_true, true_and, and_true, false_or, or_false, false_and, and_false, if_true, if_false, not_true_eq_false, not_false_eq_true, jx_tab, kX8_cell, eX8_cell, g4, g6, m37, m38, a2, h5, tq_within, m4, hq]
        exact hx _ (hm _ ⟨rfl, s, o, tp_J_f 0 hJ (by rw [jx_upE, if_neg (by omega), u9]; exact nI_0) (by simp [jx_upE]) (fun a b q1 q2 => by simp only [jx_upE, if_neg q1, if_neg q2])⟩)
      · have hx : ∀ q : Int64 → jx_M → Prop, q (-9223372036854775808) (jx_up (jx_up M 0 9 0) 0 9 (nI e)) → jx_L (d + 20) mX7_cell [.ref 0, .int (nI k), .int b, .int (nI ln)] M q := by
          intro q hq
          simp (disch := first | assumption | omega | decide) only [jx_qI_a, jx_qV_a, jx_qL_a, jn_lt, jn_le, jn_eq, jn_L, jn_A, jn_N, jn_LL, jn_add, jn_mul, jn_sub, jn_cl, jn_vin, jn_shl1, jn_shr, jn_or, jn_l_or0, jn_and1, jo_ltT, jo_ltF, jo_leT, jo_leF, jo_eqT, jo_eqF, true_or, or_true, true_and, and_true, false_or, or_false, false_and, and_false, if_true, if_false, not_true_eq_false, not_false_eq_true, jx_tab, kX7_cell, eX7_cell, g3, g5, t4, g7, u9, hq]
        have hm : ∀ q : Int64 → jx_M → Prop, q (-9223372036854775808) (jx_up (jx_up (jx_up (jx_up M 0 9 0) 0 9 (nI e)) 36 0 0) 36 0 (nI e)) → jx_L (d + 20) mX8_cell [.ref 36, .int (nI k), .int b, .int (nI ln)] (jx_up (jx_up M 0 9 0) 0 9 (nI e)) q := by
          intro q hq
          -- which fault it is, by the class's own test
          have key : ∀ f : Nat, f ≤ 4 → (∀ (q : Int32 → jx_M → Prop), jx_I (0 + 1) mX4_faultOfCells [.ref (28 + 2 * k), .int (nI ln), .int b, .int 1] M q ↔ q (nI f) M) → e = f := by
            intro f hf4 hq
            have z := (hq (fun x _ => x = nI e)).mp ((hx0 0 (fun x _ => x = nI e) M (fun _ => rfl)).mpr rfl)
            exact ((jn_eq (by omega) (by omega)).mp z).symm
          have n1 : (1 : Int32) = nI 1 := fa_lit 1
          have n2 : (2 : Int32) = nI 2 := fa_lit 2
          have n3 : (3 : Int32) = nI 3 := fa_lit 3
          rcases h6 with ⟨a1, a2⟩ | ⟨a1, a2⟩
          · have := key 1 (by decide) (fun q => by
              rw [← n1]
              simp (disch := first | assumption | omega | decide) only [jx_qI_a, jx_qV_a, jx_qL_a, jn_lt, jn_le, jn_eq, jn_L, jn_A, jn_N, jn_LL, jn_add, jn_mul, jn_sub, jn_cl, jn_vin, jn_shl1, jn_shr, jn_or, jn_l_or0, jn_and1, jo_ltT, jo_ltF, jo_leT, jo_leF, jo_eqT, jo_eqF, true_or, or_true, true_and, and_true, false_or, or_false, false_and, and_false, if_true, if_false, not_true_eq_false, not_false_eq_true, jx_tab, kX4_faultOfCells, eX4_faultOfCells, a1, h3])
            subst this
            rw [← n1] at hq ⊢
            simp (disch := first | assumption | omega | decide) only [jx_qI_a, jx_qV_a, jx_qL_a, jn_lt, jn_le, jn_eq, jn_L, jn_A, jn_N, jn_LL, jn_add, jn_mul, jn_sub, jn_cl, jn_vin, jn_shl1, jn_shr, jn_or, jn_l_or0, jn_and1, jo_ltT, jo_ltF, jo_leT, jo_leF, jo_eqT, jo_eqF, true_or, or_true, true_and, and_true, false_or, or_false, false_and, and_false, if_true, if_false, not_true_eq_false, not_false_eq_true, jx_tab, kX8_cell, eX8_cell, g4, g6, m37, a2, ml, hq]
          · by_cases hll : lane = ln
            · have e1 : (1 : Int32).toInt = 1 := by decide
              rcases jx_ix b (n := len) (by omega) with hn | ⟨i, hi, rfl⟩
              · have g8 : ∀ d q, jx_I d mX4_hasCells [.ref (28 + 2 * k), .int b, .int 1] M q ↔ q 0 M := by
                  intro d q
                  rw [tp_hasCells t1 h4 h2 b 1, if_neg]
                  rintro ⟨-, q1, q2⟩
                  rw [e1] at q2
                  rcases hn with hn | hn
                  · rw [fa_lt] at hn
                    exact absurd hn (by show ¬ b.toInt < 0; omega)
                  · rw [fa_le, nI_toInt (by omega)] at hn
                    omega
                have := key 3 (by decide) (fun q => by
                  rw [← n3]
                  simp (disch := first | assumption | omega | decide) only [jx_qI_a, jx_qV_a, jx_qL_a, jn_lt, jn_le, jn_eq, jn_L, jn_A, jn_N, jn_LL, jn_add, jn_mul, jn_sub, jn_cl, jn_vin, jn_shl1, jn_shr, jn_or, jn_l_or0, jn_and1, jo_ltT, jo_ltF, jo_leT, jo_leF, jo_eqT, jo_eqF, true_or, or_true, true_and, and_true, false_or, or_false, false_and, and_false, if_true, if_false, not_true_eq_false, not_false_eq_true, jx_tab, kX4_faultOfCells, eX4_faultOfCells, a1, h3, g8])
                subst this
                rw [← n3] at hq ⊢
                by_cases hb : b < 0
                · simp (disch := first | assumption | omega | decide) only [jx_qI_a, jx_qV_a, jx_qL_a, jn_lt, jn_le, jn_eq, jn_L, jn_A, jn_N, jn_LL, jn_add, jn_mul, jn_sub, jn_cl, jn_vin, jn_shl1, jn_shr, jn_or, jn_l_or0, jn_and1, jo_ltT, jo_ltF, jo_leT, jo_leF, jo_eqT, jo_eqF, true_or, or_true, true_and, and_true, false_or, or_false, false_and, and_false, if_true, if_false, not_true_eq_false, not_false_eq_true, jx_tab, kX8_cell, eX8_cell, g4, g6, m37, m38, h5, a2, tq_within, hb, ml, hq]
                · have hb2 := hn.resolve_left hb
                  have hb3 : nI len - 1 < b := by
                    rw [fa_le, nI_toInt (by omega)] at hb2
                    rw [fa_lt]
                    have : (nI len - 1).toInt = (len : Int) - 1 := pk_sub_toInt (b := 1) (by omega) (by decide)
                    omega
                  by_cases hl0 : 1 ≤ len
                  · rw [jn_sub_l hl0] at hb3
                    simp (disch := first | assumption | omega | decide) only [jx_qI_a, jx_qV_a, jx_qL_a, jn_lt, jn_le, jn_eq, jn_L, jn_A, jn_N, jn_LL, jn_add, jn_mul, jn_sub, jn_cl, jn_vin, jn_shl1, jn_shr, jn_or, jn_l_or0, jn_and1, jo_ltT, jo_ltF, jo_leT, jo_leF, jo_eqT, jo_eqF, true_or, or_true, true_and, and_true, false_or, or_false, false_and, and_false, if_true, if_false, not_true_eq_false, not_false_eq_true, jx_tab, kX8_cell, eX8_cell, g4, g6, m37, m38, h5, a2, tq_within, hb, hb3, ml, hq]
                  · have hl1 : len = 0 := by omega
                    subst hl1
                    simp (disch := first | assumption | omega | decide) only [jx_qI_a, jx_qV_a, jx_qL_a, jn_LL, true_or, or_true, true_and, and_true, false_or, or_false, false_and, and_false, if_true, if_false, not_true_eq_false, not_false_eq_true, jx_tab, kX8_cell, eX8_cell, g4, g6, m37, m38, h5, jn_N, jn_eq, a2, tq_within, hb, hb3, jn_vin, jn_cl, jo_ltT, jo_eqT, ml, hq]
              · exfalso
                have := key 0 (by decide) (fun q => by
                  have n0 : (0 : Int32) = nI 0 := fa_lit 0
                  have g8 := fun d q => tp_hasCells (d := d) (q := q) (M := M) t1 h4 h2 (nI i) 1
                  rw [if_pos (by rw [e1, nI_toInt (by omega)]; omega)] at g8
                  rw [← n0]
                  simp (disch := first | assumption | omega | decide) only [jx_qI_a, jx_qV_a, jx_qL_a, jn_lt, jn_le, jn_eq, jn_L, jn_A, jn_N, jn_LL, jn_add, jn_mul, jn_sub, jn_cl, jn_vin, jn_shl1, jn_shr, jn_or, jn_l_or0, jn_and1, jo_ltT, jo_ltF, jo_leT, jo_leF, jo_eqT, jo_eqF, true_or, or_true, true_and, and_true, false_or, or_false, false_and, and_false, if_true, if_false, not_true_eq_false, not_false_eq_true, jx_tab, kX4_faultOfCells, eX4_faultOfCells, a1, h3, g8])
                exact hez this
            · have := key 2 (by decide) (fun q => by
                rw [← n2]
                simp (disch := first | assumption | omega | decide) only [jx_qI_a, jx_qV_a, jx_qL_a, jn_lt, jn_le, jn_eq, jn_L, jn_A, jn_N, jn_LL, jn_add, jn_mul, jn_sub, jn_cl, jn_vin, jn_shl1, jn_shr, jn_or, jn_l_or0, jn_and1, jo_ltT, jo_ltF, jo_leT, jo_leF, jo_eqT, jo_eqF, true_or, or_true, true_and, and_true, false_or, or_false, false_and, and_false, if_true, if_false, not_true_eq_false, not_false_eq_true, jx_tab, kX4_faultOfCells, eX4_faultOfCells, a1, h3])
              subst this
              rw [← n2] at hq ⊢
              simp (disch := first | assumption | omega | decide) only [jx_qI_a, jx_qV_a, jx_qL_a, jn_lt, jn_le, jn_eq, jn_L, jn_A, jn_N, jn_LL, jn_add, jn_mul, jn_sub, jn_cl, jn_vin, jn_shl1, jn_shr, jn_or, jn_l_or0, jn_and1, jo_ltT, jo_ltF, jo_leT, jo_leF, jo_eqT, jo_eqF, true_or, or_true, true_and, and_true, false_or, or_false, false_and, and_false, if_true, if_false, not_true_eq_false, not_false_eq_true, jx_tab, kX8_cell, eX8_cell, g4, g6, m37, a2, ml, hq]
        exact hx _ (hm _ ⟨rfl, fin (nI e)⟩)
end TPO6
