/-! office: the text, as the reference reads it -/
def tf_m (M : jx_M) (b n : Nat) (v : Nat → Int32) (a : Nat) : Prop := M 36 14 = nI (b + a) ∧ ∀ j, j < n → M 39 (b + j) = v j
def tf_mf (M' M : jx_M) : Prop := ∀ x y, ¬ (x = 36 ∧ 14 ≤ y ∧ y ≤ 18) → ¬ (45 ≤ x ∧ x ≤ 49) → M' x y = M x y
def tf_Q (M : jx_M) (s : tp_S) : Prop := M 36 17 = nI (s 0 0) ∧ M 36 18 = nI (s 0 1) ∧ M 36 15 = nI (s 0 2) ∧ M 36 16 = nI (s 0 3) ∧ (∀ p, p < s 0 0 → M 45 p = nI (s 1 p) ∧ M 46 p = nI (s 2 p)) ∧ (∀ c, c < s 0 1 → M 47 c = nI (s 3 c) ∧ M 48 c = nI (s 4 c) ∧ M 49 c = nI (s 5 c))
theorem tf_mf.trans {M1 M2 M3 : jx_M} (h : tf_mf M1 M2) (h2 : tf_mf M2 M3) : tf_mf M1 M3 := fun x y z1 z2 => (h x y z1 z2).trans (h2 x y z1 z2)
theorem tf_mf_up {M : jx_M} {a b : Nat} {x : Int32} (h : (a = 36 ∧ 14 ≤ b ∧ b ≤ 18) ∨ (45 ≤ a ∧ a ≤ 49)) : tf_mf (jx_up M a b x) M := fun a' b' z1 z2 => by rw [jx_upE, if_neg (by omega)]
section TG
variable {d b n : Nat} {v : Nat → Int32} {M : jx_M} {q : Int32 → jx_M → Prop}
theorem tf_m_up {a x y : Nat} {z : Int32} (h : tf_m M b n v a) (h1 : ¬ (x = 36 ∧ y = 14)) (h2 : ¬ x = 39) : tf_m (jx_up M x y z) b n v a := ⟨by rw [jx_upE, if_neg (by omega)]; exact h.1, fun j hj => by rw [jx_upA (by omega)]; exact h.2 j hj⟩
theorem tf_m_at {a a' : Nat} (h : tf_m M b n v a) : tf_m (jx_up M 36 14 (nI (b + a'))) b n v a' := ⟨jx_upS _ _ _ _, fun j hj => by rw [jx_upA (by decide)]; exact h.2 j hj⟩
theorem tf_sign {a : Nat} {x : Int32} (hb : b + n ≤ 240) (hc : tf_m M b n v a) (ha : a < 1000) (hx : ¬ (-9 : Int32) = x) : jx_I d mX8_isSign [.ref 36, .int (nI (b + n)), .int x] M q ↔ (if tf_K v n a = x then q 1 (jx_up M 36 14 (nI (b + (a + 1)))) else q 0 M) := by
  have c1 := hc.1
  have n1 : nI (b + a) + 1 = nI (b + (a + 1)) := jn_add_l (b + a) 1
  by_cases h : a < n
  · have c2 := hc.2 a h
    rw [tf_K, if_pos h]
    simp (disch := first | assumption | omega | decide) only [jx_qI_a, jx_qV_a, jx_qL_a, jn_lt, jn_le, jn_eq, jn_L, jn_A, jn_N, jn_LL, jn_add, jn_mul, jn_sub, jn_cl, jn_vin, jn_shl1, jn_shr, jn_or, jn_l_or0, jn_and1, jo_ltT, jo_ltF, jo_leT, jo_leF, jo_eqT, jo_eqF, true_or, or_true, true_and, and_true, false_or, or_false, false_and, and_false, if_true, if_false, not_true_eq_false, not_false_eq_true, jx_tab, kX8_isSign, eX8_isSign, c1, c2, n1]
  · rw [tf_K, if_neg h, if_neg hx]
    simp (disch := first | assumption | omega | decide) only [jx_qI_a, jx_qV_a, jx_qL_a, jn_lt, jn_le, jn_eq, jn_L, jn_A, jn_N, jn_LL, jn_add, jn_mul, jn_sub, jn_cl, jn_vin, jn_shl1, jn_shr, jn_or, jn_l_or0, jn_and1, jo_ltT, jo_ltF, jo_leT, jo_leF, jo_eqT, jo_eqF, true_or, or_true, true_and, and_true, false_or, or_false, false_and, and_false, if_true, if_false, not_true_eq_false, not_false_eq_true, jx_tab, kX8_isSign, eX8_isSign, c1]
theorem tf_mdig_y {a lo hi x : Nat} (hb : b + n ≤ 240) (hc : tf_m M b n v a) (ha : a < 1000) (hl : lo ≤ 9) (hh : hi ≤ 9) (h : tf_dg v n a lo hi = some x) : jx_I (d + 1) mX8_digit [.ref 36, .int (nI (b + n)), .int (nI lo), .int (nI hi)] M q ↔ q (nI x) (jx_up M 36 14 (nI (b + (a + 1)))) := by
  have c1 := hc.1
  have n1 : nI (b + a) + 1 = nI (b + (a + 1)) := jn_add_l (b + a) 1
  obtain ⟨h1, h2, h3, h4⟩ := tf_dg_y hl hh h
  have c2 := hc.2 a h4
  rw [tf_K, if_pos h4] at h1
  rw [h1] at c2
  have c3 := jx_upS M 36 14 (nI (b + (a + 1)))
  have c4 : jx_up M 36 14 (nI (b + (a + 1))) 39 (b + a) = nI (48 + x) := by rw [jx_upA (by decide)]; exact c2
  have e1 : b + (a + 1) - 1 = b + a := by omega
  have e48 : 48 + x - 48 = x := by omega
  simp (disch := first | assumption | omega | decide) only [jx_qI_a, jx_qV_a, jx_qL_a, jn_lt, jn_le, jn_eq, jn_L, jn_A, jn_N, jn_LL, jn_add, jn_mul, jn_sub, jn_cl, jn_vin, jn_shl1, jn_shr, jn_or, jn_l_or0, jn_and1, jo_ltT, jo_ltF, jo_leT, jo_leF, jo_eqT, jo_eqF, true_or, or_true, true_and, and_true, false_or, or_false, false_and, and_false, if_true, if_false, not_true_eq_false, not_false_eq_true, jx_tab, kX8_digit, eX8_digit, c1, c2, c3, c4, n1, tq_within, e1, e48]
theorem tf_mdig_n {a lo hi : Nat} (hb : b + n ≤ 240) (hc : tf_m M b n v a) (ha : a < 1000) (hl : lo ≤ 9) (hh : hi ≤ 9) (h : tf_dg v n a lo hi = none) : jx_I (d + 1) mX8_digit [.ref 36, .int (nI (b + n)), .int (nI lo), .int (nI hi)] M q ↔ q (-9) M := by
  have c1 := hc.1
  by_cases h4 : a < n
  · have c2 := hc.2 a h4
    have hn := tf_dg_n h
    rw [tf_K, if_pos h4] at hn
    have ew : (if v a < nI (48 + lo) then (0 : Int32) else if nI (48 + hi) < v a then 0 else 1) = 0 := by
      by_cases z : v a < nI (48 + lo)
      · rw [if_pos z]
      · rw [if_neg z, if_pos (hn.resolve_left z)]
    have hw : ∀ (d : Nat) (q : Int32 → jx_M → Prop), jx_I d mX8_within [.int (v a), .int (nI (48 + lo)), .int (nI (48 + hi))] M q ↔ q 0 M := fun d q => by rw [tq_within, ew]
    simp (disch := first | assumption | omega | decide) only [jx_qI_a, jx_qV_a, jx_qL_a, jn_lt, jn_le, jn_eq, jn_L, jn_A, jn_N, jn_LL, jn_add, jn_mul, jn_sub, jn_cl, jn_vin, jn_shl1, jn_shr, jn_or, jn_l_or0, jn_and1, jo_ltT, jo_ltF, jo_leT, jo_leF, jo_eqT, jo_eqF, true_or, or_true, true_and, and_true, false_or, or_false, false_and, and_false, if_true, if_false, not_true_eq_false, not_false_eq_true, jx_tab, kX8_digit, eX8_digit, c1, c2, hw]
  · simp (disch := first | assumption | omega | decide) only [jx_qI_a, jx_qV_a, jx_qL_a, jn_lt, jn_le, jn_eq, jn_L, jn_A, jn_N, jn_LL, jn_add, jn_mul, jn_sub, jn_cl, jn_vin, jn_shl1, jn_shr, jn_or, jn_l_or0, jn_and1, jo_ltT, jo_ltF, jo_leT, jo_leF, jo_eqT, jo_eqF, true_or, or_true, true_and, and_true, false_or, or_false, false_and, and_false, if_true, if_false, not_true_eq_false, not_false_eq_true, jx_tab, kX8_digit, eX8_digit, c1]
theorem tf_mperson {p a : Nat} {s : tp_S} (hb : b + n ≤ 240) (hc : tf_m M b n v a) (ha : a < 900) (hp : p < 5) (hQ : tf_Q M s) (hs : s 0 0 = p)
    (k1 : ∀ M', tf_dg v n a 0 9 = none → tf_mf M' M → M' 36 14 = nI (b + a) → q 0 M')
    (k2 : ∀ x M', tf_dg v n a 0 9 = some x → tf_dg v n (a + 1) 0 5 = none → tf_mf M' M → M' 36 14 = nI (b + (a + 1)) → q 0 M')
    (k3 : ∀ x y M', tf_dg v n a 0 9 = some x → tf_dg v n (a + 1) 0 5 = some y → tf_mf M' M → tf_m M' b n v (a + 2) → tf_Q M' (tf_s2 s p x y) → q 1 M') : jx_I (d + 2) mX8_readPerson [.ref 36, .int (nI (b + n))] M q := by
  have n0 : (0 : Int32) = nI 0 := fa_lit 0
  have n9 : (9 : Int32) = nI 9 := fa_lit 9
  have n5 : (5 : Int32) = nI 5 := fa_lit 5
  have np : nI p + 1 = nI (p + 1) := jn_add_l p 1
  have ep : p + 1 - 1 = p := by omega
  have e17 : M 36 17 = nI p := by rw [hQ.1, hs]
  have ne9 : ∀ x, x ≤ 9 → ¬ nI x = -9 := fun x hx z => by
    have := nI_pos (n := x) (by omega)
    rw [z] at this
    exact this (by decide)
  rcases hd : tf_dg v n a 0 9 with _ | x
  · have g := fun d q => tf_mdig_n (d := d) (q := q) hb hc (by omega) (by decide) (by decide) hd
    rw [← n0, ← n9] at g
    have hc1 := tf_m_up (x := 45) (y := p) (z := -9) hc (by omega) (by decide)
    have hq := k1 (jx_up M 45 p (-9)) hd (tf_mf_up (by omega)) hc1.1
    have e1 : jx_up M 45 p (-9) 36 17 = nI p := by rw [jx_upA (by decide)]; exact e17
    have e2 := jx_upS M 45 p (-9)
    simp (disch := first | assumption | omega | decide) only [jx_qI_a, jx_qV_a, jx_qL_a, jn_lt, jn_le, jn_eq, jn_L, jn_A, jn_N, jn_LL, jn_add, jn_mul, jn_sub, jn_cl, jn_vin, jn_shl1, jn_shr, jn_or, jn_l_or0, jn_and1, jo_ltT, jo_ltF, jo_leT, jo_leF, jo_eqT, jo_eqF, true_or, or_true, true_and, and_true, false_or, or_false, false_and, and_false, if_true, if_false, not_true_eq_false, not_false_eq_true, jx_tab, kX8_readPerson, eX8_readPerson, e17, e1, e2, g, hq]
  · have g := fun d q => tf_mdig_y (d := d) (q := q) hb hc (by omega) (by decide) (by decide) hd
    rw [← n0, ← n9] at g
    obtain ⟨-, -, hx, -⟩ := tf_dg_y (by decide) (by decide) hd
    have w := ne9 x hx
    have hc2 := tf_m_up (x := 45) (y := p) (z := nI x) (tf_m_at (a' := a + 1) hc) (by omega) (by decide)
    have fr2 : tf_mf (jx_up (jx_up M 36 14 (nI (b + (a + 1)))) 45 p (nI x)) M := (tf_mf_up (by omega)).trans (tf_mf_up (by omega))
    have e1 : jx_up (jx_up M 36 14 (nI (b + (a + 1)))) 45 p (nI x) 36 17 = nI p := by rw [jx_upA (by decide), jx_upB (by decide)]; exact e17
    have e2 := jx_upS (jx_up M 36 14 (nI (b + (a + 1)))) 45 p (nI x)
    generalize hN : jx_up (jx_up M 36 14 (nI (b + (a + 1)))) 45 p (nI x) = N at hc2 fr2 e1 e2
    rcases hd2 : tf_dg v n (a + 1) 0 5 with _ | y
    · have g2 := fun d q => tf_mdig_n (d := d) (q := q) hb hc2 (by omega) (by decide) (by decide) hd2
      rw [← n0, ← n5] at g2
      have e3 : jx_up N 46 p (-9) 36 17 = nI p := by rw [jx_upA (by decide)]; exact e1
      have e4 : jx_up (jx_up N 46 p (-9)) 36 17 (nI (p + 1)) 36 17 = nI (p + 1) := jx_upS _ _ _ _
      have e5 : jx_up (jx_up N 46 p (-9)) 36 17 (nI (p + 1)) 46 p = -9 := by rw [jx_upA (by decide), jx_upS]
      have hc3 := tf_m_up (x := 36) (y := 17) (z := nI (p + 1)) (tf_m_up (x := 46) (y := p) (z := -9) hc2 (by omega) (by decide)) (by omega) (by decide)
      have hq := k2 x (jx_up (jx_up N 46 p (-9)) 36 17 (nI (p + 1))) hd hd2 (((tf_mf_up (by omega)).trans (tf_mf_up (by omega))).trans fr2) hc3.1
      simp (disch := first | assumption | omega | decide) only [jx_qI_a, jx_qV_a, jx_qL_a, jn_lt, jn_le, jn_eq, jn_L, jn_A, jn_N, jn_LL, jn_add, jn_mul, jn_sub, jn_cl, jn_vin, jn_shl1, jn_shr, jn_or, jn_l_or0, jn_and1, jo_ltT, jo_ltF, jo_leT, jo_leF, jo_eqT, jo_eqF, true_or, or_true, true_and, and_true, false_or, or_false, false_and, and_false, if_true, if_false, not_true_eq_false, not_false_eq_true, jx_tab, kX8_readPerson, eX8_readPerson, e17, hN, e1, e2, e3, e4, e5, np, ep, g, g2, w, hq]
    · have g2 := fun d q => tf_mdig_y (d := d) (q := q) hb hc2 (by omega) (by decide) (by decide) hd2
      rw [← n0, ← n5] at g2
      obtain ⟨-, -, hy, -⟩ := tf_dg_y (by decide) (by decide) hd2
      have w2 := ne9 y (by omega)
      have e3 : jx_up (jx_up N 36 14 (nI (b + (a + 1 + 1)))) 46 p (nI y) 36 17 = nI p := by rw [jx_upA (by decide), jx_upB (by decide)]; exact e1
      have e4 : jx_up (jx_up (jx_up N 36 14 (nI (b + (a + 1 + 1)))) 46 p (nI y)) 36 17 (nI (p + 1)) 36 17 = nI (p + 1) := jx_upS _ _ _ _
      have e5 : jx_up (jx_up (jx_up N 36 14 (nI (b + (a + 1 + 1)))) 46 p (nI y)) 36 17 (nI (p + 1)) 46 p = nI y := by rw [jx_upA (by decide), jx_upS]
      have hc3 := tf_m_up (x := 36) (y := 17) (z := nI (p + 1)) (tf_m_up (x := 46) (y := p) (z := nI y) (tf_m_at (a' := a + 1 + 1) hc2) (by omega) (by decide)) (by omega) (by decide)
      have hq := k3 x y (jx_up (jx_up (jx_up N 36 14 (nI (b + (a + 1 + 1)))) 46 p (nI y)) 36 17 (nI (p + 1))) hd hd2 ((((tf_mf_up (by omega)).trans (tf_mf_up (by omega))).trans (tf_mf_up (by omega))).trans fr2) hc3 (by
        obtain ⟨c1, c2, c3, c4, c5, c6⟩ := hQ
        subst hs
        rw [← hN]
        refine ⟨?_, ?_, ?_, ?_, fun p' hp' => ?_, fun c hcc => ?_⟩
        · rw [jx_upS]; simp [tf_s2]
        · simp [jx_upE, tf_s2, c2]
        · simp [jx_upE, tf_s2, c3]
        · simp [jx_upE, tf_s2, c4]
        · have hp2 : p' < s 0 0 + 1 := by simpa [tf_s2] using hp'
          by_cases e : p' = s 0 0
          · subst e
            constructor
            · simp [jx_upE, tf_s2]
            · simp [jx_upE, tf_s2]
          · obtain ⟨f1, f2⟩ := c5 p' (by omega)
            constructor
            · simp [jx_upE, tf_s2, e, f1]
            · simp [jx_upE, tf_s2, e, f2]
        · have hc2 : c < s 0 1 := by simpa [tf_s2] using hcc
          obtain ⟨f1, f2, f3⟩ := c6 c hc2
          refine ⟨?_, ?_, ?_⟩
          · simp [jx_upE, tf_s2, f1]
          · simp [jx_upE, tf_s2, f2]
          · simp [jx_upE, tf_s2, f3])
      simp (disch := first | assumption | omega | decide) only [jx_qI_a, jx_qV_a, jx_qL_a, jn_lt, jn_le, jn_eq, jn_L, jn_A, jn_N, jn_LL, jn_add, jn_mul, jn_sub, jn_cl, jn_vin, jn_shl1, jn_shr, jn_or, jn_l_or0, jn_and1, jo_ltT, jo_ltF, jo_leT, jo_leF, jo_eqT, jo_eqF, true_or, or_true, true_and, and_true, false_or, or_false, false_and, and_false, if_true, if_false, not_true_eq_false, not_false_eq_true, jx_tab, kX8_readPerson, eX8_readPerson, e17, hN, e1, e2, e3, e4, e5, np, ep, g, g2, w, w2, hq]
end TG
