/-! the call open -/
section TPP2
variable {d : Nat} {q : Int32 → jx_M → Prop}
theorem tp_read {M : jx_M} {t len a : Nat} (t1 : jx_cl t = 4) (t2 : jx_cl (t + 1) = 9) (t3 : jx_sz (t + 1) = 60) (hl : M t 2 = nI len) (hlen : len ≤ 60) (ha : a < len) : jx_I d mX4_read [.ref t, .int (nI a)] M q ↔ q (M (t + 1) a) M := by
  simp (disch := first | assumption | omega | decide) only [jx_qI_a, jx_qV_a, jx_qL_a, jn_lt, jn_le, jn_eq, jn_L, jn_A, jn_N, jn_LL, jn_add, jn_mul, jn_sub, jn_cl, jn_vin, jn_shl1, jn_shr, jn_or, jn_l_or0, jn_and1, jo_ltT, jo_ltF, jo_leT, jo_leF, jo_eqT, jo_eqF, true_or, or_true, true_and, and_true, false_or, or_false, false_and, and_false, if_true, if_false, not_true_eq_false, not_false_eq_true, jx_tab, kX4_read, eX4_read, hl, t3]
def tp_mon (x : Int32) : Prop := ∃ k : Nat, k < 4 ∧ x = nI k
theorem tp_tm_l {t a n len : Nat} {v : Nat → Int32} (t1 : jx_cl t = 4) (t2 : jx_cl (t + 1) = 9) (t3 : jx_sz (t + 1) = 60) (ht8 : t ≠ 8 ∧ t + 1 ≠ 8) (hlen : len ≤ 60) (hn : n ≤ 6) (han : a + n ≤ len) {Q : jx_Po} : ∀ r c (M : jx_M), c + r = n → M t 2 = nI len → (∀ j, M (t + 1) j = v j) → (∀ j, j < c → M 8 j = v (a + j)) →
    (∀ M' : jx_M, (∀ x y, x ≠ 8 → M' x y = M x y) → (∀ j, j < n → M' 8 j = v (a + j)) → (∀ j, c ≤ j → j < n → tp_mon (v (a + j))) → Q [.int 1] M') → (∀ M' : jx_M, (∀ x y, x ≠ 8 → M' x y = M x y) → (∃ j, c ≤ j ∧ j < n ∧ ¬ tp_mon (v (a + j))) → Q [.int 0] M') → jx_Ev (d + 1) mX2_takeMonths 3 [some (.ref 7), some (.ref t), some (.int (nI a)), some (.int (nI n)), some (.int (nI c))] [] M Q
  | 0, c, M, h, hl, hv, h8, k1, k0 => by
    have h : c = n := h
    subst h
    have := k1 M (fun _ _ _ => rfl) h8 (fun j h1 h2 => by omega)
    rw [eX2_takeMonths_3]
    simp (disch := first | assumption | omega | decide) only [jx_qI_a, jx_qV_a, jx_qL_a, jn_lt, jn_le, jn_eq, jn_L, jn_A, jn_N, jn_LL, jn_add, jn_mul, jn_sub, jn_cl, jn_vin, jn_shl1, jn_shr, jn_or, jn_l_or0, jn_and1, jo_ltT, jo_ltF, jo_leT, jo_leF, jo_eqT, jo_eqF, true_or, or_true, true_and, and_true, false_or, or_false, false_and, and_false, if_true, if_false, not_true_eq_false, not_false_eq_true, jx_tab, eX2_takeMonths, this]
  | r + 1, c, M, h, hl, hv, h8, k1, k0 => by
    have hrd := fun d q => tp_read (d := d) (q := q) (M := M) (a := a + c) t1 t2 t3 hl hlen (by omega)
    have e8 : ∀ x, jx_up M 8 c x 8 c = x := fun x => by simp [jx_upE]
    have hvc := hv (a + c)
    rw [eX2_takeMonths_3]
    by_cases hm : tp_mon (v (a + c))
    · obtain ⟨k, hk, ek⟩ := id hm
      have ih := tp_tm_l t1 t2 t3 ht8 hlen hn han (Q := Q) (v := v) r (c + 1) (jx_up M 8 c (v (a + c))) (by omega) (by rw [jx_upE, if_neg (by omega)]; exact hl) (fun j => by rw [jx_upE, if_neg (by omega)]; exact hv j) (fun j hj => by
          rw [jx_upE]
          by_cases e : j = c
          · rw [if_pos ⟨rfl, e⟩, e]
          · rw [if_neg (by omega)]; exact h8 j (by omega)) (fun M' e1 e2 e3 => k1 M' (fun x y z => by rw [e1 x y z, jx_upE, if_neg (by omega)]) e2 (fun j h1 h2 => by
          by_cases e : j = c
          · subst e; exact hm
          · exact e3 j (by omega) h2)) (fun M' e1 e2 => k0 M' (fun x y z => by rw [e1 x y z, jx_upE, if_neg (by omega)]) (by
          obtain ⟨j, h1, h2, h3⟩ := e2
          exact ⟨j, by omega, h2, h3⟩))
      rw [ek] at ih
      simp (disch := first | assumption | omega | decide) only [jx_qI_a, jx_qV_a, jx_qL_a, jn_lt, jn_le, jn_eq, jn_L, jn_A, jn_N, jn_LL, jn_add, jn_mul, jn_sub, jn_cl, jn_vin, jn_shl1, jn_shr, jn_or, jn_l_or0, jn_and1, jo_ltT, jo_ltF, jo_leT, jo_leF, jo_eqT, jo_eqF, true_or, or_true, true_and, and_true, false_or, or_false, false_and, and_false, if_true, if_false, not_true_eq_false, not_false_eq_true, jx_tab, eX2_takeMonths, hrd, hvc, e8, ek, ih]
    · have hk0 := k0 (jx_up M 8 c (v (a + c))) (fun x y z => by rw [jx_upE, if_neg (by omega)]) ⟨c, by omega, by omega, hm⟩
      rcases jx_ix (v (a + c)) (n := 4) (by decide) with (h1 | h1) | ⟨k, hk, ek⟩
      · simp (disch := first | assumption | omega | decide) only [jx_qI_a, jx_qV_a, jx_qL_a, jn_lt, jn_le, jn_eq, jn_L, jn_A, jn_N, jn_LL, jn_add, jn_mul, jn_sub, jn_cl, jn_vin, jn_shl1, jn_shr, jn_or, jn_l_or0, jn_and1, jo_ltT, jo_ltF, jo_leT, jo_leF, jo_eqT, jo_eqF, true_or, or_true, true_and, and_true, false_or, or_false, false_and, and_false, if_true, if_false, not_true_eq_false, not_false_eq_true, jx_tab, eX2_takeMonths, hrd, hvc, e8, h1, hk0]
      · obtain ⟨u1, u2, u3⟩ := jn_le_of (a := 3) h1 (Nat.le_refl 3) (by decide)
        have u4 : ¬ v (a + c) < 4 := by
          have : (4 : Int32) ≤ v (a + c) := h1
          rw [fa_le] at this
          rw [fa_lt]
          omega
        simp (disch := first | assumption | omega | decide) only [jx_qI_a, jx_qV_a, jx_qL_a, jn_lt, jn_le, jn_eq, jn_L, jn_A, jn_N, jn_LL, jn_add, jn_mul, jn_sub, jn_cl, jn_vin, jn_shl1, jn_shr, jn_or, jn_l_or0, jn_and1, jo_ltT, jo_ltF, jo_leT, jo_leF, jo_eqT, jo_eqF, true_or, or_true, true_and, and_true, false_or, or_false, false_and, and_false, if_true, if_false, not_true_eq_false, not_false_eq_true, jx_tab, eX2_takeMonths, hrd, hvc, e8, u3, u4, hk0]
      · exact absurd ⟨k, hk, ek⟩ hm
theorem tq_om_l {k a n : Nat} {v : Nat → Int32} {w : Int32} {l2 l6 : Option Value} (hk : k < 4) (hn : n ≤ 6) (han : a + n ≤ 60) {Q : jx_Po} : ∀ r c (M : jx_M), c + r = n → (∀ j, j < 60 → M 39 (60 * k + j) = v j) → (∀ j, j < c → M 50 j = v (a + j)) →
    (∀ M' : jx_M, (∀ x y, x ≠ 50 → M' x y = M x y) → (∀ j, j < n → M' 50 j = v (a + j)) → (∀ j, c ≤ j → j < n → tp_mon (v (a + j))) → jx_I (d + 19) mX8_tellOpen [.ref 36, .int w] M' (fun x N => Q [.int x] N)) → (∀ M' : jx_M, (∀ x y, x ≠ 50 → M' x y = M x y) → (∃ j, c ≤ j ∧ j < n ∧ ¬ tp_mon (v (a + j))) → Q [.int (-2)] M') → jx_Ev (d + 20) mX8_open 94 [some (.ref 36), some (.int (nI k)), l2, some (.int (nI a)), some (.int (nI n)), some (.int w), l6, some (.int (nI c))] [] M Q
  | 0, c, M, h, hv, h8, k1, k0 => by
    have h : c = n := h
    subst h
    have := k1 M (fun _ _ _ => rfl) h8 (fun j h1 h2 => by omega)
    rw [eX8_open_94]
    simp (disch := first | assumption | omega | decide) only [jx_qI_a, jx_qV_a, jx_qL_a, jn_lt, jn_le, jn_eq, jn_L, jn_A, jn_N, jn_LL, jn_add, jn_mul, jn_sub, jn_cl, jn_vin, jn_shl1, jn_shr, jn_or, jn_l_or0, jn_and1, jo_ltT, jo_ltF, jo_leT, jo_leF, jo_eqT, jo_eqF, true_or, or_true, true_and, and_true, false_or, or_false, false_and, and_false, if_true, if_false, not_true_eq_false, not_false_eq_true, jx_tab, eX8_open, this]
  | r + 1, c, M, h, hv, h8, k1, k0 => by
    have e8 : ∀ x, jx_up M 50 c x 50 c = x := fun x => by simp [jx_upE]
    have hvc := hv (a + c) (by omega)
    rw [← Nat.add_assoc] at hvc
    rw [eX8_open_94]
    by_cases hm : tp_mon (v (a + c))
    · obtain ⟨k', hk', ek⟩ := id hm
      have ih := tq_om_l hk hn han (Q := Q) (v := v) (w := w) (l2 := l2) (l6 := l6) r (c + 1) (jx_up M 50 c (v (a + c))) (by omega) (fun j hj => by rw [jx_upE, if_neg (by omega)]; exact hv j hj) (fun j hj => by
          rw [jx_upE]
          by_cases e : j = c
          · rw [if_pos ⟨rfl, e⟩, e]
          · rw [if_neg (by omega)]; exact h8 j (by omega)) (fun M' e1 e2 e3 => k1 M' (fun x y z => by rw [e1 x y z, jx_upE, if_neg (by omega)]) e2 (fun j h1 h2 => by
          by_cases e : j = c
          · subst e; exact hm
          · exact e3 j (by omega) h2)) (fun M' e1 e2 => k0 M' (fun x y z => by rw [e1 x y z, jx_upE, if_neg (by omega)]) (by
          obtain ⟨j, h1, h2, h3⟩ := e2
          exact ⟨j, by omega, h2, h3⟩))
      rw [ek] at ih
      simp (disch := first | assumption | omega | decide) only [jx_qI_a, jx_qV_a, jx_qL_a, jn_lt, jn_le, jn_eq, jn_L, jn_A, jn_N, jn_LL, jn_add, jn_mul, jn_sub, jn_cl, jn_vin, jn_shl1, jn_shr, jn_or, jn_l_or0, jn_and1, jo_ltT, jo_ltF, jo_leT, jo_leF, jo_eqT, jo_eqF, true_or, or_true, true_and, and_true, false_or, or_false, false_and, and_false, if_true, if_false, not_true_eq_false, not_false_eq_true, jx_tab, eX8_open, hvc, e8, ek, tq_within, ih]
    · have hk0 := k0 (jx_up M 50 c (v (a + c))) (fun x y z => by rw [jx_upE, if_neg (by omega)]) ⟨c, by omega, by omega, hm⟩
      rcases jx_ix (v (a + c)) (n := 4) (by decide) with (h1 | h1) | ⟨k, hk, ek⟩
      · simp (disch := first | assumption | omega | decide) only [jx_qI_a, jx_qV_a, jx_qL_a, jn_lt, jn_le, jn_eq, jn_L, jn_A, jn_N, jn_LL, jn_add, jn_mul, jn_sub, jn_cl, jn_vin, jn_shl1, jn_shr, jn_or, jn_l_or0, jn_and1, jo_ltT, jo_ltF, jo_leT, jo_leF, jo_eqT, jo_eqF, true_or, or_true, true_and, and_true, false_or, or_false, false_and, and_false, if_true, if_false, not_true_eq_false, not_false_eq_true, jx_tab, eX8_open, hvc, e8, h1, tq_within, hk0]
      · obtain ⟨u1, u2, u3⟩ := jn_le_of (a := 3) h1 (Nat.le_refl 3) (by decide)
        have u4 : (3 : Int32) < v (a + c) := u2
        simp (disch := first | assumption | omega | decide) only [jx_qI_a, jx_qV_a, jx_qL_a, jn_lt, jn_le, jn_eq, jn_L, jn_A, jn_N, jn_LL, jn_add, jn_mul, jn_sub, jn_cl, jn_vin, jn_shl1, jn_shr, jn_or, jn_l_or0, jn_and1, jo_ltT, jo_ltF, jo_leT, jo_leF, jo_eqT, jo_eqF, true_or, or_true, true_and, and_true, false_or, or_false, false_and, and_false, if_true, if_false, not_true_eq_false, not_false_eq_true, jx_tab, eX8_open, hvc, e8, u3, u4, tq_within, hk0]
      · exact absurd ⟨k, hk, ek⟩ hm
theorem tp_asked {M : jx_M} {w : Nat} (hw : w < 100) : jx_I d mX7_isAskedOfOpenings [.int (nI w)] M q ↔ q (if w ≤ 2 ∨ 10 ≤ w ∧ w < 15 then 1 else 0) M := by
  have e15 : nI w < 15 ↔ w < 15 := by
    have n15 : (15 : Int32) = nI 15 := fa_lit 15
    rw [n15, jn_lt (by omega) (by decide)]
  have e15' : (15 : Int32) ≤ nI w ↔ 15 ≤ w := by
    have n15 : (15 : Int32) = nI 15 := fa_lit 15
    rw [n15, jn_le (by decide) (by omega)]
  by_cases h1 : w ≤ 2
  · simp (disch := first | assumption | omega | decide) only [jx_qI_a, jx_qV_a, jx_qL_a, jn_lt, jn_le, jn_eq, jn_L, jn_A, jn_N, jn_LL, jn_add, jn_mul, jn_sub, jn_cl, jn_vin, jn_shl1, jn_shr, jn_or, jn_l_or0, jn_and1, jo_ltT, jo_ltF, jo_leT, jo_leF, jo_eqT, jo_eqF, true_or, or_true, true_and, and_true, false_or, or_false, false_and, and_false, if_true, if_false, not_true_eq_false, not_false_eq_true, jx_tab, kX7_isAskedOfOpenings, eX7_isAskedOfOpenings]
  · by_cases h2 : w < 10
    · rw [if_neg (by omega)]
      simp (disch := first | assumption | omega | decide) only [jx_qI_a, jx_qV_a, jx_qL_a, jn_lt, jn_le, jn_eq, jn_L, jn_A, jn_N, jn_LL, jn_add, jn_mul, jn_sub, jn_cl, jn_vin, jn_shl1, jn_shr, jn_or, jn_l_or0, jn_and1, jo_ltT, jo_ltF, jo_leT, jo_leF, jo_eqT, jo_eqF, true_or, or_true, true_and, and_true, false_or, or_false, false_and, and_false, if_true, if_false, not_true_eq_false, not_false_eq_true, jx_tab, kX7_isAskedOfOpenings, eX7_isAskedOfOpenings]
    · by_cases h3 : w < 15
      · rw [if_pos (by omega)]
        simp (disch := first | assumption | omega | decide) only [jx_qI_a, jx_qV_a, jx_qL_a, jn_lt, jn_le, jn_eq, jn_L, jn_A, jn_N, jn_LL, jn_add, jn_mul, jn_sub, jn_cl, jn_vin, jn_shl1, jn_shr, jn_or, jn_l_or0, jn_and1, jo_ltT, jo_ltF, jo_leT, jo_leF, jo_eqT, jo_eqF, true_or, or_true, true_and, and_true, false_or, or_false, false_and, and_false, if_true, if_false, not_true_eq_false, not_false_eq_true, jx_tab, kX7_isAskedOfOpenings, eX7_isAskedOfOpenings, e15, e15']
      · rw [if_neg (by omega)]
        simp (disch := first | assumption | omega | decide) only [jx_qI_a, jx_qV_a, jx_qL_a, jn_lt, jn_le, jn_eq, jn_L, jn_A, jn_N, jn_LL, jn_add, jn_mul, jn_sub, jn_cl, jn_vin, jn_shl1, jn_shr, jn_or, jn_l_or0, jn_and1, jo_ltT, jo_ltF, jo_leT, jo_leF, jo_eqT, jo_eqF, true_or, or_true, true_and, and_true, false_or, or_false, false_and, and_false, if_true, if_false, not_true_eq_false, not_false_eq_true, jx_tab, kX7_isAskedOfOpenings, eX7_isAskedOfOpenings, e15, e15']
theorem tp_asked_n {M : jx_M} {x : Int32} (hx : x < 0 ∨ nI 100 ≤ x) : jx_I d mX7_isAskedOfOpenings [.int x] M q ↔ q 0 M := by
  rcases hx with h | h
  · obtain ⟨u1, u2, u3⟩ := jn_lt0 (b := 10) h (by decide)
    have u4 : x < 10 := by
      rw [fa_lt] at h ⊢
      have : (10 : Int32).toInt = 10 := by decide
      have : (0 : Int32).toInt = 0 := by decide
      omega
    simp (disch := first | assumption | omega | decide) only [jx_qI_a, jx_qV_a, jx_qL_a, jn_LL, true_or, or_true, true_and, and_true, false_or, or_false, false_and, and_false, if_true, if_false, not_true_eq_false, not_false_eq_true, jx_tab, kX7_isAskedOfOpenings, eX7_isAskedOfOpenings, h, u4]
  · have t : (100 : Int) ≤ x.toInt := by
      rw [fa_le, nI_toInt (by decide)] at h
      exact h
    have v1 : ¬ x < 0 := by rw [fa_lt]; show ¬ x.toInt < 0; omega
    have v2 : ¬ x ≤ 2 := by rw [fa_le]; show ¬ x.toInt ≤ 2; omega
    have v3 : ¬ x < 10 := by rw [fa_lt]; show ¬ x.toInt < 10; omega
    have v4 : (15 : Int32) ≤ x := by rw [fa_le]; show 15 ≤ x.toInt; omega
    have v5 : ¬ x < 15 := by rw [fa_lt]; show ¬ x.toInt < 15; omega
    simp (disch := first | assumption | omega | decide) only [jx_qI_a, jx_qV_a, jx_qL_a, jn_LL, true_or, or_true, true_and, and_true, false_or, or_false, false_and, and_false, if_true, if_false, not_true_eq_false, not_false_eq_true, jx_tab, kX7_isAskedOfOpenings, eX7_isAskedOfOpenings, v1, v2, v3, v4, v5]
end TPP2
section TPP3
variable {d : Nat} {M : jx_M}
theorem op_open (h : tp_I M) (a b c n w : Int32) : jx_I (d + 20) mX7_open [.ref 0, .int a, .int b, .int c, .int n, .int w] M (fun r M1 => jx_I (d + 20) mX8_open [.ref 36, .int a, .int b, .int c, .int n, .int w] M1 (fun r2 M2 => r = r2 ∧ tp_I M2)) := by
  obtain ⟨s, o, hJ⟩ := h
  obtain ⟨ho, h06, h07, hr, hC, hD, hf, ht, hrd, hsh⟩ := id hJ
  have hoo : o = 16 ∨ o = 22 := ho
  have fin0 : tp_I (jx_up (jx_up M 0 9 0) 36 0 0) := ⟨s, o, tp_J_f 0 hJ (by simp [jx_upE]) (by simp [jx_upE]) (fun a b q1 q2 => by simp only [jx_upE, if_neg q1, if_neg q2])⟩
  rcases jx_ix a (n := 4) (by omega) with hn | ⟨k, hk, rfl⟩
  · have g3 := fun M d q => tp_isSheet_n (d := d) (q := q) (M := M) hn
    have g4 := fun M d q => tq_isSheet_n (d := d) (q := q) (M := M) hn
    have hx : ∀ q : Int32 → jx_M → Prop, q (-1) (jx_up M 0 9 0) → jx_I (d + 20) mX7_open [.ref 0, .int a, .int b, .int c, .int n, .int w] M q := by
      intro q hq
      simp (disch := first | assumption | omega | decide) only [kX7_open, ↓eX7_open, ↓g3, jx_qI_a, jn_LL, if_true, if_false, hq]
    have hm : ∀ q : Int32 → jx_M → Prop, q (-1) (jx_up (jx_up M 0 9 0) 36 0 0) → jx_I (d + 20) mX8_open [.ref 36, .int a, .int b, .int c, .int n, .int w] (jx_up M 0 9 0) q := by
      intro q hq
      simp (disch := first | assumption | omega | decide) only [kX8_open, ↓eX8_open, ↓g4, jx_qI_a, jn_LL, if_true, if_false, hq]
    exact hx _ (hm _ ⟨rfl, fin0⟩)
  · have g3 := fun M d q => tp_isSheet_y (d := d) (q := q) (M := M) hk
    have g4 := fun M d q => tq_isSheet_y (d := d) (q := q) (M := M) hk
    obtain ⟨t1, t2, t3, t4⟩ := tp_St hk
    obtain ⟨lane, len, hs⟩ := hsh k hk
    rcases jx_ix b (n := 3) (by omega) with hn | ⟨ln, hl, rfl⟩
    · have g5 := fun M d q => tp_isLane_n (d := d) (q := q) (M := M) hn
      have g6 := fun M d q => tq_isSort_n (d := d) (q := q) (M := M) hn
      have hx : ∀ q : Int32 → jx_M → Prop, q (-2) (jx_up M 0 9 0) → jx_I (d + 20) mX7_open [.ref 0, .int (nI k), .int b, .int c, .int n, .int w] M q := by
        intro q hq
        simp (disch := first | assumption | omega | decide) only [kX7_open, ↓eX7_open, ↓g3, ↓g5, jx_qI_a, jn_LL, if_true, if_false, hq]
      have hm : ∀ q : Int32 → jx_M → Prop, q (-2) (jx_up (jx_up M 0 9 0) 36 0 0) → jx_I (d + 20) mX8_open [.ref 36, .int (nI k), .int b, .int c, .int n, .int w] (jx_up M 0 9 0) q := by
        intro q hq
        simp (disch := first | assumption | omega | decide) only [kX8_open, ↓eX8_open, ↓g4, ↓g6, jx_qI_a, jn_LL, if_true, if_false, hq]
      exact hx _ (hm _ ⟨rfl, fin0⟩)
    · have g5 := fun M d q => tp_isLane_y (d := d) (q := q) (M := M) hl
      have g6 := fun M d q => tq_isSort_y (d := d) (q := q) (M := M) hl
      by_cases hw : ∃ W : Nat, w = nI W ∧ (W ≤ 2 ∨ 10 ≤ W ∧ W < 15)
      · obtain ⟨W, rfl, hW⟩ := hw
        have hW100 : W < 100 := by omega
        have g7 := fun M d q => tp_asked (M := M) (d := d) (q := q) hW100
        rw [if_pos hW] at g7
        obtain ⟨e, he4, he0, hx0, hm0⟩ := tp_ag hs hk hl c n
        have m1 : ∀ b, jx_up M 0 9 0 (28 + 2 * k) b = M (28 + 2 * k) b := fun b => by rw [jx_upE, if_neg (by omega)]
        have g8 := fun d q => hx0 d q (jx_up M 0 9 0) m1
        by_cases hez : e = 0
        · subst hez
          obtain ⟨rfl, a1, i, m, rfl, rfl, him⟩ := he0 rfl
          have hlen := hs.2.1
          have e6 : ∀ N : jx_M, N 0 6 = M 0 6 → jx_rv (N 0 6) = .ref o := fun N e => by rw [e, h06]; exact tp_rvn (by omega)
          have e60 := e6 (jx_up M 0 9 0) (by rw [jx_upE, if_neg (by omega)])
          have hC0 : tp_C (jx_up M 0 9 0) o s := tp_C_fr hC (fun a b q1 q2 => by rw [jx_upE, if_neg (by omega)])
          have hD0 : ∀ N : jx_M, (∀ a b, a ≠ 8 → N a b = jx_up M 0 9 0 a b) → tp_D (jx_up N 36 0 0) s := fun N e => tp_D_fr hD (fun b q1 q2 => by rw [jx_upE, if_neg (by omega), e _ _ (by omega), jx_upE, if_neg (by omega)]) (fun a b q1 q2 => by rw [jx_upE, if_neg (by omega), e _ _ (by omega), jx_upE, if_neg (by omega)])
          have gs := fun d q => tp_stands (d := d) (q := q) ho hr hC0
          have g9 := fun N (e : ∀ a b, a ≠ 8 → N a b = jx_up M 0 9 0 a b) d q => hm0 d q (jx_up N 36 0 0) (by rw [jx_upE, if_neg (by omega), e _ _ (by omega), jx_upE, if_neg (by omega)]) (by rw [jx_upE, if_neg (by omega), e _ _ (by omega), jx_upE, if_neg (by omega)])
          have r1 := hr.1
          have r2 := hr.2.1
          obtain ⟨o0, o1, o2, o3, o4, o5, z1, z2, z3, z4, z5⟩ := tp_Ot ho
          by_cases hs0 : 0 < s 0 1
          · rw [if_pos hs0] at gs
            by_cases hmC : m = s 0 1
            · have hx : ∀ q : Int32 → jx_M → Prop, (∀ M1 : jx_M, (∀ a b, a ≠ 8 → M1 a b = jx_up M 0 9 0 a b) → (∀ j, j < m → M1 8 j = M (28 + 2 * k + 1) (i + j)) → (∀ j, j < m → tp_mon (M (28 + 2 * k + 1) (i + j))) → q (tp_oa s (fun j => (M (28 + 2 * k + 1) (i + j)).toNatClampNeg) W) M1) → (∀ M1 : jx_M, (∀ a b, a ≠ 8 → M1 a b = jx_up M 0 9 0 a b) → (∃ j, j < m ∧ ¬ tp_mon (M (28 + 2 * k + 1) (i + j))) → q (-2) M1) → jx_I (d + 20) mX7_open [.ref 0, .int (nI k), .int (nI lane), .int (nI i), .int (nI m), .int (nI W)] M q := by
                intro q hq1 hq0
                simp (disch := first | assumption | omega | decide) only [kX7_open, ↓eX7_open, ↓g3, ↓g5, ↓g7, t4, eX7_open, ↓g8, e60, ↓gs, hC0.2.1, jn_vin, jn_L, jn_eq, jn_LL, jo_ltT, jo_eqT, jo_eqF, jx_qI_a, if_true, if_false, true_and, kX2_takeMonths, eX2_takeMonths]
                refine tp_tm_l (v := fun j => M (28 + 2 * k + 1) j) (len := len) t1 t2 t3 ⟨by omega, by omega⟩ hlen (by omega) him m 0 _ (Nat.zero_add m) (by rw [m1]; exact hs.2.2.2.1) (fun j => by rw [jx_upE, if_neg (by omega)]) (fun j hj => by omega) (fun M1 e1 e2 e3 => ?_) (fun M1 e1 e2 => ?_)
                · have ea := tp_answer (d := d + 11) (q := q) (M := M1) (mo := fun j => (M (28 + 2 * k + 1) (i + j)).toNatClampNeg) (w := W) ho hr (e6 M1 (by rw [e1 _ _ (by decide), jx_upE, if_neg (by omega)])) (tp_C_fr hC (fun a b q1 q2 => by rw [e1 _ _ (by omega), jx_upE, if_neg (by omega)])) (fun c hc => by
                      obtain ⟨x, hx4, ex⟩ := e3 c (Nat.zero_le c) (by omega)
                      have ex : M (28 + 2 * k + 1) (i + c) = nI x := ex
                      have e2c : M1 8 c = M (28 + 2 * k + 1) (i + c) := e2 c (by omega)
                      rw [e2c, ex, jn_cl (by omega)]
                      exact ⟨rfl, hx4⟩) hW
                  have hqq := hq1 M1 e1 e2 (fun j hj => e3 j (Nat.zero_le j) hj)
                  simp (disch := first | assumption | omega | decide) only [jx_qI_a, jn_LL, if_true, if_false, ↓eX7_open, ↓ea, hqq]
                · have hqq := hq0 M1 e1 (by obtain ⟨j, -, h2, h3⟩ := e2; exact ⟨j, h2, h3⟩)
                  simp (disch := first | assumption | omega | decide) only [jx_qI_a, jn_LL, if_true, if_false, ↓eX7_open, hqq]
              have hm : ∀ (M1 : jx_M) (e1 : ∀ a b, a ≠ 8 → M1 a b = jx_up M 0 9 0 a b) (q : Int32 → jx_M → Prop), (∀ M2 : jx_M, (∀ a b, a ≠ 50 → M2 a b = jx_up M1 36 0 0 a b) → (∀ j, j < m → tp_mon (M (28 + 2 * k + 1) (i + j))) → q (tp_oa s (fun j => (M (28 + 2 * k + 1) (i + j)).toNatClampNeg) W) M2) → (∀ M2 : jx_M, (∀ a b, a ≠ 50 → M2 a b = jx_up M1 36 0 0 a b) → (∃ j, j < m ∧ ¬ tp_mon (M (28 + 2 * k + 1) (i + j))) → q (-2) M2) → jx_I (d + 20) mX8_open [.ref 36, .int (nI k), .int (nI lane), .int (nI i), .int (nI m), .int (nI W)] M1 q := by
                intro M1 e1 q hq1 hq0
                have g9 := g9 M1 e1
                have hD1 := hD0 M1 e1
                have c6 : jx_up M1 36 0 0 36 6 = nI (s 0 1) := hD1.2.1
                have fin : jx_Ev (d + 20) mX8_open 94 [some (.ref 36), some (.int (nI k)), some (.int (nI lane)), some (.int (nI i)), some (.int (nI m)), some (.int (nI W)), some (.int (nI 0)), some (.int (nI 0))] [] (jx_up M1 36 0 0) (jx_qI q) := by
                  refine tq_om_l (v := fun j => M (28 + 2 * k + 1) j) hk (by omega) (by omega) m 0 _ (Nat.zero_add m) (fun j hj => ?_) (fun j hj => by omega) (fun M2 f1 f2 f3 => ?_) (fun M2 f1 f2 => ?_)
                  · rw [jx_upE, if_neg (by omega), e1 _ _ (by decide), jx_upE, if_neg (by omega)]
                    exact hs.2.2.2.2.2.2 j hj
                  · have ea := tq_answer (d := d + 11) (q := fun x N => jx_qI q [.int x] N) (M := M2) (mo := fun j => (M (28 + 2 * k + 1) (i + j)).toNatClampNeg) (w := W) hr (tp_D_fr hD1 (fun b q1 q2 => f1 _ _ (by decide)) (fun a b q1 q2 => f1 _ _ (by omega))) (fun c hc => by
                        obtain ⟨x, hx4, ex⟩ := f3 c (Nat.zero_le c) (by omega)
                        have ex : M (28 + 2 * k + 1) (i + c) = nI x := ex
                        have e2c : M2 50 c = M (28 + 2 * k + 1) (i + c) := f2 c (by omega)
                        rw [e2c, ex, jn_cl (by omega)]
                        exact ⟨rfl, hx4⟩) hW
                    refine ea.mpr ?_
                    rw [jx_qI_a]
                    exact hq1 M2 f1 (fun j hj => f3 j (Nat.zero_le j) hj)
                  · rw [jx_qI_a]
                    exact hq0 M2 f1 (by obtain ⟨j, -, h2, h3⟩ := f2; exact ⟨j, h2, h3⟩)
                have n0 : nI 0 = (0 : Int32) := (fa_lit 0).symm
                have fin2 := fin
                rw [show some (Value.int (nI 0)) = some (Value.int (0 : Int32)) from by rw [n0]] at fin2
                rcases hW with hW | hW
                · simp (disch := first | assumption | omega | decide) only [kX8_open, ↓eX8_open, ↓g4, ↓g6, ↓tq_within, ↓g9, c6, jn_L, jn_eq, jo_ltT, jo_ltF, jo_eqF, jo_eqT, jx_qI_a, jn_LL, if_true, if_false]
                  exact fin
                · simp (disch := first | assumption | omega | decide) only [kX8_open, ↓eX8_open, ↓g4, ↓g6, ↓tq_within, ↓g9, c6, jn_L, jn_eq, jo_ltT, jo_ltF, jo_eqF, jo_eqT, jx_qI_a, jn_LL, if_true, if_false]
                  exact fin
              have fin : ∀ M1 M2 : jx_M, (∀ a b, a ≠ 8 → M1 a b = jx_up M 0 9 0 a b) → (∀ a b, a ≠ 50 → M2 a b = jx_up M1 36 0 0 a b) → tp_I M2 := by
                intro M1 M2 e1 e2
                refine ⟨s, o, tp_J_fr (M := jx_up (jx_up M 0 9 0) 36 0 0) (tp_J_f 0 hJ (by simp [jx_upE]) (by simp [jx_upE]) (fun a b q1 q2 => by simp only [jx_upE, if_neg q1, if_neg q2])) (fun a b hc => ?_)⟩
                have hc' : (a = 0 ∧ 6 ≤ b ∧ b ≤ 9) ∨ (o ≤ a ∧ a ≤ o + 5) ∨ (a = 36 ∧ (b ≤ 8 ∨ b = 27)) ∨ (40 ≤ a ∧ a ≤ 44) ∨ (3 ≤ a ∧ a ≤ 6) ∨ (53 ≤ a ∧ a ≤ 55) ∨ (28 ≤ a ∧ a ≤ 39 ∧ a ≠ 36) := hc
                have ha8 : a ≠ 8 := by omega
                have ha50 : a ≠ 50 := by omega
                rw [e2 a b ha50, jx_upE, jx_upE (M := jx_up M 0 9 0)]
                by_cases z : a = 36 ∧ b = 0
                · rw [if_pos z, if_pos z]
                · rw [if_neg z, if_neg z, e1 a b ha8]
              refine hx _ (fun M1 e1 e2 e3 => hm M1 e1 _ (fun M2 f1 f2 => ⟨rfl, fin M1 M2 e1 f1⟩) (fun M2 f1 f2 => ?_)) (fun M1 e1 e2 => hm M1 e1 _ (fun M2 f1 f2 => ?_) (fun M2 f1 f2 => ⟨rfl, fin M1 M2 e1 f1⟩))
              · obtain ⟨j, h1, h2⟩ := f2
                exact absurd (e3 j h1) h2
              · obtain ⟨j, h1, h2⟩ := e2
                exact absurd (f2 j h1) h2
            · have hx : ∀ q : Int32 → jx_M → Prop, q (-2) (jx_up M 0 9 0) → jx_I (d + 20) mX7_open [.ref 0, .int (nI k), .int (nI lane), .int (nI i), .int (nI m), .int (nI W)] M q := by
                intro q hq
                simp (disch := first | assumption | omega | decide) only [kX7_open, ↓eX7_open, ↓g3, ↓g5, ↓g7, t4, eX7_open, ↓g8, e60, ↓gs, hC0.2.1, jn_vin, jn_L, jn_eq, jn_LL, jo_ltT, jo_eqT, jo_eqF, jx_qI_a, if_true, if_false, true_and, hq]
              have hm : ∀ q : Int32 → jx_M → Prop, q (-2) (jx_up (jx_up M 0 9 0) 36 0 0) → jx_I (d + 20) mX8_open [.ref 36, .int (nI k), .int (nI lane), .int (nI i), .int (nI m), .int (nI W)] (jx_up M 0 9 0) q := by
                intro q hq
                have g9 := g9 _ (fun _ _ _ => rfl)
                have hD1 := hD0 _ (fun _ _ _ => rfl)
                rcases hW with hW | hW
                · simp (disch := first | assumption | omega | decide) only [kX8_open, ↓eX8_open, ↓g4, ↓g6, ↓tq_within, ↓g9, hD1.2.1, jn_L, jn_eq, jo_ltT, jo_ltF, jo_eqF, jo_eqT, jx_qI_a, jn_LL, if_true, if_false, hq]
                · simp (disch := first | assumption | omega | decide) only [kX8_open, ↓eX8_open, ↓g4, ↓g6, ↓tq_within, ↓g9, hD1.2.1, jn_L, jn_eq, jo_ltT, jo_ltF, jo_eqF, jo_eqT, jx_qI_a, jn_LL, if_true, if_false, hq]
              exact hx _ (hm _ ⟨rfl, fin0⟩)
          · rw [if_neg hs0] at gs
            have hx : ∀ q : Int32 → jx_M → Prop, q (-3) (jx_up M 0 9 0) → jx_I (d + 20) mX7_open [.ref 0, .int (nI k), .int (nI lane), .int (nI i), .int (nI m), .int (nI W)] M q := by
              intro q hq
              simp (disch := first | assumption | omega | decide) only [kX7_open, ↓eX7_open, ↓g3, ↓g5, ↓g7, t4, eX7_open, ↓g8, e60, ↓gs, jn_vin, jn_L, jn_eq, jn_LL, jo_ltT, jo_eqT, jo_eqF, jx_qI_a, if_true, if_false, true_and, hq]
            have hm : ∀ q : Int32 → jx_M → Prop, q (-3) (jx_up (jx_up M 0 9 0) 36 0 0) → jx_I (d + 20) mX8_open [.ref 36, .int (nI k), .int (nI lane), .int (nI i), .int (nI m), .int (nI W)] (jx_up M 0 9 0) q := by
              intro q hq
              have g9 := g9 _ (fun _ _ _ => rfl)
              have hD1 := hD0 _ (fun _ _ _ => rfl)
              rcases hW with hW | hW
              · simp (disch := first | assumption | omega | decide) only [kX8_open, ↓eX8_open, ↓g4, ↓g6, ↓tq_within, ↓g9, hD1.2.1, jn_L, jn_eq, jo_ltT, jo_ltF, jo_eqF, jo_eqT, jx_qI_a, jn_LL, if_true, if_false, hq]
              · simp (disch := first | assumption | omega | decide) only [kX8_open, ↓eX8_open, ↓g4, ↓g6, ↓tq_within, ↓g9, hD1.2.1, jn_L, jn_eq, jo_ltT, jo_ltF, jo_eqF, jo_eqT, jx_qI_a, jn_LL, if_true, if_false, hq]
            exact hx _ (hm _ ⟨rfl, fin0⟩)
        · have hx : ∀ q : Int32 → jx_M → Prop, q (-10 - nI e) (jx_up (jx_up M 0 9 0) 0 9 (nI e)) → jx_I (d + 20) mX7_open [.ref 0, .int (nI k), .int (nI ln), .int c, .int n, .int (nI W)] M q := by
            intro q hq
            simp (disch := first | assumption | omega | decide) only [kX7_open, ↓eX7_open, ↓g3, ↓g5, ↓g7, t4, eX7_open, ↓g8, jn_vin, jn_L, jo_ltT, jo_eqF, jx_qI_a, jn_LL, if_true, if_false, true_and, ↓tp_faultAnswer, hq]
          have hm : ∀ q : Int32 → jx_M → Prop, q (-10 - nI e) (jx_up (jx_up (jx_up (jx_up M 0 9 0) 0 9 (nI e)) 36 0 0) 36 0 (nI e)) → jx_I (d + 20) mX8_open [.ref 36, .int (nI k), .int (nI ln), .int c, .int n, .int (nI W)] (jx_up (jx_up M 0 9 0) 0 9 (nI e)) q := by
            intro q hq
            have g9 := fun d q => hm0 d q (jx_up (jx_up (jx_up M 0 9 0) 0 9 (nI e)) 36 0 0) (by simp only [jx_upE]; rw [if_neg (by omega), if_neg (by omega), if_neg (by omega)]) (by simp only [jx_upE]; rw [if_neg (by omega), if_neg (by omega), if_neg (by omega)])
            rcases hW with hW | hW
            · simp (disch := first | assumption | omega | decide) only [kX8_open, ↓eX8_open, ↓g4, ↓g6, ↓tq_within, ↓g9, jn_L, jo_ltT, jo_ltF, jo_eqF, jx_qI_a, jn_LL, if_true, if_false, ↓tq_fails, hq]
            · simp (disch := first | assumption | omega | decide) only [kX8_open, ↓eX8_open, ↓g4, ↓g6, ↓tq_within, ↓g9, jn_L, jo_ltT, jo_ltF, jo_eqF, jx_qI_a, jn_LL, if_true, if_false, ↓tq_fails, hq]
          exact hx _ (hm _ ⟨rfl, s, o, tp_J_f (nI e) hJ (by simp [jx_upE]) (by simp [jx_upE]) (fun a b q1 q2 => by simp only [jx_upE, if_neg q1, if_neg q2])⟩)
      · have hx : ∀ q : Int32 → jx_M → Prop, q (-2) (jx_up M 0 9 0) → jx_I (d + 20) mX7_open [.ref 0, .int (nI k), .int (nI ln), .int c, .int n, .int w] M q := by
          intro q hq
          rcases jx_ix w (n := 100) (by decide) with hn | ⟨W, hW, rfl⟩
          · have g7 := fun M d q => tp_asked_n (M := M) (d := d) (q := q) hn
            simp (disch := first | assumption | omega | decide) only [kX7_open, ↓eX7_open, ↓g3, ↓g5, ↓g7, jx_qI_a, jn_LL, if_true, if_false, hq]
          · have g7 := fun M d q => tp_asked (M := M) (d := d) (q := q) hW
            rw [if_neg (fun z => hw ⟨W, rfl, z⟩)] at g7
            simp (disch := first | assumption | omega | decide) only [kX7_open, ↓eX7_open, ↓g3, ↓g5, ↓g7, jx_qI_a, jn_LL, if_true, if_false, hq]
        have hm : ∀ q : Int32 → jx_M → Prop, q (-2) (jx_up (jx_up M 0 9 0) 36 0 0) → jx_I (d + 20) mX8_open [.ref 36, .int (nI k), .int (nI ln), .int c, .int n, .int w] (jx_up M 0 9 0) q := by
          intro q hq
          rcases jx_ix w (n := 100) (by decide) with (hn | hn) | ⟨W, hW, rfl⟩
          · have u4 : w < 10 := by
              rw [fa_lt] at hn ⊢
              have : (10 : Int32).toInt = 10 := by decide
              have : (0 : Int32).toInt = 0 := by decide
              omega
            simp (disch := first | assumption | omega | decide) only [kX8_open, ↓eX8_open, ↓g4, ↓g6, ↓tq_within, hn, u4, jx_qI_a, jn_LL, if_true, if_false, hq]
          · have t : (100 : Int) ≤ w.toInt := by
              rw [fa_le, nI_toInt (by decide)] at hn
              exact hn
            have v1 : ¬ w < 0 := by rw [fa_lt]; show ¬ w.toInt < 0; omega
            have v2 : (2 : Int32) < w := by rw [fa_lt]; show 2 < w.toInt; omega
            have v3 : ¬ w < 10 := by rw [fa_lt]; show ¬ w.toInt < 10; omega
            have v4 : (14 : Int32) < w := by rw [fa_lt]; show 14 < w.toInt; omega
            simp (disch := first | assumption | omega | decide) only [kX8_open, ↓eX8_open, ↓g4, ↓g6, ↓tq_within, v1, v2, v3, v4, jx_qI_a, jn_LL, if_true, if_false, hq]
          · have hW1 : ¬ (W ≤ 2 ∨ 10 ≤ W ∧ W < 15) := fun z => hw ⟨W, rfl, z⟩
            by_cases z : W < 10
            · simp (disch := first | assumption | omega | decide) only [kX8_open, ↓eX8_open, ↓g4, ↓g6, ↓tq_within, jn_L, jo_ltT, jo_ltF, jx_qI_a, jn_LL, if_true, if_false, hq]
            · simp (disch := first | assumption | omega | decide) only [kX8_open, ↓eX8_open, ↓g4, ↓g6, ↓tq_within, jn_L, jo_ltT, jo_ltF, jx_qI_a, jn_LL, if_true, if_false, hq]
        exact hx _ (hm _ ⟨rfl, fin0⟩)
end TPP3
