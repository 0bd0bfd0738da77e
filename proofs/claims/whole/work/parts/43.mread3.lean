/-! office: the whole text, as the reference reads it -/
section TG3
variable {d b n : Nat} {v : Nat → Int32} {M : jx_M}
theorem tf_Q_up {s : tp_S} {a : Nat} {x : Int32} (h : tf_Q M s) (ha : a = 14) : tf_Q (jx_up M 36 a x) s := by
  obtain ⟨c1, c2, c3, c4, c5, c6⟩ := h
  subst ha
  refine ⟨?_, ?_, ?_, ?_, fun p hp => ⟨?_, ?_⟩, fun c hc => ⟨?_, ?_, ?_⟩⟩
  · rw [jx_upB (by decide)]; exact c1
  · rw [jx_upB (by decide)]; exact c2
  · rw [jx_upB (by decide)]; exact c3
  · rw [jx_upB (by decide)]; exact c4
  · rw [jx_upA (by decide)]; exact (c5 p hp).1
  · rw [jx_upA (by decide)]; exact (c5 p hp).2
  · rw [jx_upA (by decide)]; exact (c6 c hc).1
  · rw [jx_upA (by decide)]; exact (c6 c hc).2.1
  · rw [jx_upA (by decide)]; exact (c6 c hc).2.2
theorem tf_mpeople (hb : b + n ≤ 240) {Q : jx_Po} : ∀ r p a s (M : jx_M), p + r = 5 → a = 3 + 3 * p → s 0 0 = p → tf_m M b n v a → tf_Q M s → (∀ M' s' a', tf_pe v n r p a s = (some s', a') → tf_mf M' M → tf_m M' b n v a' → tf_Q M' s' → a' ≤ 18 → jx_Ev (d + 3) mX8_readOffice 113 [some (.ref 36), some (.int (nI (b + n)))] [] M' Q) → (∀ M' a', tf_pe v n r p a s = (none, a') → tf_mf M' M → M' 36 14 = nI (b + a') → Q [.int 0] M') → jx_Ev (d + 3) mX8_readOffice 85 [some (.ref 36), some (.int (nI (b + n)))] [] M Q
  | 0, p, a, s, M, h, ha, hs, hc, hQ, k1, k0 => by
    have h : p = 5 := h
    subst h
    have hq := k1 M s a rfl (fun _ _ _ _ => rfl) hc hQ (by omega)
    have c1 := hQ.1
    rw [hs] at c1
    rw [eX8_readOffice_85]
    simp (disch := first | assumption | omega | decide) only [jx_qI_a, jx_qV_a, jx_qL_a, jn_lt, jn_le, jn_eq, jn_L, jn_A, jn_N, jn_LL, jn_add, jn_mul, jn_sub, jn_cl, jn_vin, jn_shl1, jn_shr, jn_or, jn_l_or0, jn_and1, jo_ltT, jo_ltF, jo_leT, jo_leF, jo_eqT, jo_eqF, true_or, or_true, true_and, and_true, false_or, or_false, false_and, and_false, if_true, if_false, not_true_eq_false, not_false_eq_true, jx_tab, eX8_readOffice, c1]
    exact hq
  | r + 1, p, a, s, M, h, ha, hs, hc, hQ, k1, k0 => by
    have c1 := hQ.1
    rw [hs] at c1
    have g := fun d q => tf_sign (d := d) (q := q) (x := 44) hb hc (by omega) (by decide)
    rw [tf_pe] at k1 k0
    rw [eX8_readOffice_85]
    by_cases hk : tf_K v n a = 44
    · simp only [hk, if_true] at g
      rw [if_pos hk] at k1 k0
      have hc1 := tf_m_at (a' := a + 1) hc
      have hQ1 : tf_Q (jx_up M 36 14 (nI (b + (a + 1)))) s := tf_Q_up hQ rfl
      have fr1 : tf_mf (jx_up M 36 14 (nI (b + (a + 1)))) M := tf_mf_up (by omega)
      simp (disch := first | assumption | omega | decide) only [jx_qI_a, jx_qV_a, jx_qL_a, jn_lt, jn_le, jn_eq, jn_L, jn_A, jn_N, jn_LL, jn_add, jn_mul, jn_sub, jn_cl, jn_vin, jn_shl1, jn_shr, jn_or, jn_l_or0, jn_and1, jo_ltT, jo_ltF, jo_leT, jo_leF, jo_eqT, jo_eqF, true_or, or_true, true_and, and_true, false_or, or_false, false_and, and_false, if_true, if_false, not_true_eq_false, not_false_eq_true, jx_tab, eX8_readOffice, c1, g]
      refine tf_mperson (p := p) (a := a + 1) (d := d) hb hc1 (by omega) (by omega) hQ1 hs (fun M' q1 f1 f2 => ?_) (fun x M' q1 q2 f1 f2 => ?_) (fun x y M' q1 q2 f1 f2 f3 => ?_)
      · rw [q1] at k0
        have hq := k0 M' _ rfl (f1.trans fr1) f2
        simp (disch := first | assumption | omega | decide) only [jx_qI_a, jx_qV_a, jx_qL_a, jn_lt, jn_le, jn_eq, jn_L, jn_A, jn_N, jn_LL, jn_add, jn_mul, jn_sub, jn_cl, jn_vin, jn_shl1, jn_shr, jn_or, jn_l_or0, jn_and1, jo_ltT, jo_ltF, jo_leT, jo_leF, jo_eqT, jo_eqF, true_or, or_true, true_and, and_true, false_or, or_false, false_and, and_false, if_true, if_false, not_true_eq_false, not_false_eq_true, jx_tab, eX8_readOffice, hq]
      · rw [q1, q2] at k0
        have hq := k0 M' _ rfl (f1.trans fr1) f2
        simp (disch := first | assumption | omega | decide) only [jx_qI_a, jx_qV_a, jx_qL_a, jn_lt, jn_le, jn_eq, jn_L, jn_A, jn_N, jn_LL, jn_add, jn_mul, jn_sub, jn_cl, jn_vin, jn_shl1, jn_shr, jn_or, jn_l_or0, jn_and1, jo_ltT, jo_ltF, jo_leT, jo_leF, jo_eqT, jo_eqF, true_or, or_true, true_and, and_true, false_or, or_false, false_and, and_false, if_true, if_false, not_true_eq_false, not_false_eq_true, jx_tab, eX8_readOffice, hq]
      · rw [q1, q2] at k0 k1
        have ih := tf_mpeople hb (Q := Q) r (p + 1) (a + 3) (tf_s2 s p x y) M' (by omega) (by omega) (by simp [tf_s2]) f2 f3 (fun M2 s2 a2 w1 w2 => k1 M2 s2 a2 w1 (w2.trans (f1.trans fr1))) (fun M2 a2 w1 w2 => k0 M2 a2 w1 (w2.trans (f1.trans fr1)))
        simp (disch := first | assumption | omega | decide) only [jx_qI_a, jx_qV_a, jx_qL_a, jn_lt, jn_le, jn_eq, jn_L, jn_A, jn_N, jn_LL, jn_add, jn_mul, jn_sub, jn_cl, jn_vin, jn_shl1, jn_shr, jn_or, jn_l_or0, jn_and1, jo_ltT, jo_ltF, jo_leT, jo_leF, jo_eqT, jo_eqF, true_or, or_true, true_and, and_true, false_or, or_false, false_and, and_false, if_true, if_false, not_true_eq_false, not_false_eq_true, jx_tab, eX8_readOffice]
        exact ih
    · simp only [hk, if_false] at g
      rw [if_neg hk] at k1
      have hq := k1 M s a rfl (fun _ _ _ _ => rfl) hc hQ (by omega)
      simp (disch := first | assumption | omega | decide) only [jx_qI_a, jx_qV_a, jx_qL_a, jn_lt, jn_le, jn_eq, jn_L, jn_A, jn_N, jn_LL, jn_add, jn_mul, jn_sub, jn_cl, jn_vin, jn_shl1, jn_shr, jn_or, jn_l_or0, jn_and1, jo_ltT, jo_ltF, jo_leT, jo_leF, jo_eqT, jo_eqF, true_or, or_true, true_and, and_true, false_or, or_false, false_and, and_false, if_true, if_false, not_true_eq_false, not_false_eq_true, jx_tab, eX8_readOffice, c1, g]
      exact hq
theorem tf_mclaps {P : Nat} (hb : b + n ≤ 240) (hP0 : 0 < P) (hP5 : P ≤ 5) {Q : jx_Po} : ∀ r c a s (M : jx_M), c + r = 6 → a ≤ 18 + 4 * c → s 0 1 = c → s 0 0 = P → tf_m M b n v a → tf_Q M s → (∀ M' s' a', tf_cl v n r c a s = (some s', a') → tf_mf M' M → M' 36 14 = nI (b + a') → tf_Q M' s' → Q [.int (if 0 < s' 0 1 ∧ a' = n then 1 else 0)] M') → (∀ M' a', tf_cl v n r c a s = (none, a') → tf_mf M' M → M' 36 14 = nI (b + a') → Q [.int 0] M') → jx_Ev (d + 3) mX8_readOffice 113 [some (.ref 36), some (.int (nI (b + n)))] [] M Q
  | 0, c, a, s, M, h, ha, hs, hP, hc, hQ, k1, k0 => by
    have h : c = 6 := h
    subst h
    have hq := k1 M s a rfl (fun _ _ _ _ => rfl) hc.1 hQ
    have c1 := hQ.2.1
    have c2 := hc.1
    rw [hs] at c1 hq
    have n6 : nI 6 = (6 : Int32) := (fa_lit 6).symm
    rw [eX8_readOffice_113]
    by_cases e : a = n
    · rw [if_pos ⟨by decide, e⟩] at hq
      have e' : b + a = b + n := by omega
      simp (disch := first | assumption | omega | decide) only [jx_qI_a, jx_qV_a, jx_qL_a, jn_lt, jn_le, jn_eq, jn_L, jn_A, jn_N, jn_LL, jn_add, jn_mul, jn_sub, jn_cl, jn_vin, jn_shl1, jn_shr, jn_or, jn_l_or0, jn_and1, jo_ltT, jo_ltF, jo_leT, jo_leF, jo_eqT, jo_eqF, true_or, or_true, true_and, and_true, false_or, or_false, false_and, and_false, if_true, if_false, not_true_eq_false, not_false_eq_true, jx_tab, eX8_readOffice, c1, c2, hq]
    · rw [if_neg (fun z => e z.2)] at hq
      have e' : ¬ b + a = b + n := by omega
      simp (disch := first | assumption | omega | decide) only [jx_qI_a, jx_qV_a, jx_qL_a, jn_lt, jn_le, jn_eq, jn_L, jn_A, jn_N, jn_LL, jn_add, jn_mul, jn_sub, jn_cl, jn_vin, jn_shl1, jn_shr, jn_or, jn_l_or0, jn_and1, jo_ltT, jo_ltF, jo_leT, jo_leF, jo_eqT, jo_eqF, true_or, or_true, true_and, and_true, false_or, or_false, false_and, and_false, if_true, if_false, not_true_eq_false, not_false_eq_true, jx_tab, eX8_readOffice, c1, c2, hq]
  | r + 1, c, a, s, M, h, ha, hs, hP, hc, hQ, k1, k0 => by
    have c1 := hQ.2.1
    have c2 := hc.1
    rw [hs] at c1
    have g := fun d q => tf_sign (d := d) (q := q) (x := 59) hb hc (by omega) (by decide)
    rw [tf_cl] at k1 k0
    rw [eX8_readOffice_113]
    by_cases hk : tf_K v n a = 59
    · have han : a < n := by
        by_cases z : a < n
        · exact z
        · rw [tf_K, if_neg z] at hk
          exact absurd hk (by decide)
      simp only [hk, if_true] at g
      rw [if_pos hk, hP] at k1 k0
      have hc1 := tf_m_at (a' := a + 1) hc
      have hQ1 : tf_Q (jx_up M 36 14 (nI (b + (a + 1)))) s := tf_Q_up hQ rfl
      have fr1 : tf_mf (jx_up M 36 14 (nI (b + (a + 1)))) M := tf_mf_up (by omega)
      have rest : jx_I (d + 2) mX8_readClap [.ref 36, .int (nI (b + n))] (jx_up M 36 14 (nI (b + (a + 1)))) (fun x M => if x = 0 then Q [.int 0] M else jx_Ev (d + 3) mX8_readOffice 113 [some (.ref 36), some (.int (nI (b + n)))] [] M Q) := by
        refine tf_mclap (c := c) (a := a + 1) (d := d) hb hc1 (by omega) (by omega) hQ1 hs hP hP0 hP5 (fun M' q1 f1 f2 => ?_) (fun k M' q1 q2 f1 f2 => ?_) (fun k z M' q1 q2 q3 f1 f2 => ?_) (fun k z x M' q1 q2 q3 f1 f2 f3 => ?_)
        · rw [q1] at k0
          rw [if_pos rfl]
          exact k0 M' _ rfl (f1.trans fr1) f2
        · rw [q1, q2] at k0
          rw [if_pos rfl]
          exact k0 M' _ rfl (f1.trans fr1) f2
        · rw [q1, q2, q3] at k0
          rw [if_pos rfl]
          exact k0 M' _ rfl (f1.trans fr1) f2
        · rw [q1, q2, q3] at k0 k1
          rw [if_neg (by decide)]
          exact tf_mclaps hb hP0 hP5 (Q := Q) r (c + 1) (a + 4) (tf_s3 s c k z x) M' (by omega) (by omega) (by simp [tf_s3]) (by simp [tf_s3, hP]) f2 f3 (fun M2 s2 a2 w1 w2 => k1 M2 s2 a2 w1 (w2.trans (f1.trans fr1))) (fun M2 a2 w1 w2 => k0 M2 a2 w1 (w2.trans (f1.trans fr1)))
      by_cases hc0 : c = 0
      · rw [hc0] at c1
        have c1' : M 36 18 = 0 := c1
        simp (disch := first | assumption | omega | decide) only [jx_qI_a, jx_qV_a, jx_qL_a, jn_lt, jn_le, jn_eq, jn_L, jn_A, jn_N, jn_LL, jn_add, jn_mul, jn_sub, jn_cl, jn_vin, jn_shl1, jn_shr, jn_or, jn_l_or0, jn_and1, jo_ltT, jo_ltF, jo_leT, jo_leF, jo_eqT, jo_eqF, true_or, or_true, true_and, and_true, false_or, or_false, false_and, and_false, if_true, if_false, not_true_eq_false, not_false_eq_true, jx_tab, eX8_readOffice, c1', c2, g]
        exact rest
      · have c0' : ¬ nI c = 0 := fun z => hc0 ((jn_eq (b := 0) (by omega) (by decide)).mp z)
        simp (disch := first | assumption | omega | decide) only [jx_qI_a, jx_qV_a, jx_qL_a, jn_lt, jn_le, jn_eq, jn_L, jn_A, jn_N, jn_LL, jn_add, jn_mul, jn_sub, jn_cl, jn_vin, jn_shl1, jn_shr, jn_or, jn_l_or0, jn_and1, jo_ltT, jo_ltF, jo_leT, jo_leF, jo_eqT, jo_eqF, true_or, or_true, true_and, and_true, false_or, or_false, false_and, and_false, if_true, if_false, not_true_eq_false, not_false_eq_true, jx_tab, eX8_readOffice, c1, c0', c2, g]
        exact rest
    · simp only [hk, if_false] at g
      rw [if_neg hk] at k1
      have hq := k1 M s a rfl (fun _ _ _ _ => rfl) hc.1 hQ
      rw [hs] at hq
      by_cases hc0 : c = 0
      · rw [hc0] at c1
        have c1' : M 36 18 = 0 := c1
        rw [if_neg (by omega)] at hq
        simp (disch := first | assumption | omega | decide) only [jx_qI_a, jx_qV_a, jx_qL_a, jn_lt, jn_le, jn_eq, jn_L, jn_A, jn_N, jn_LL, jn_add, jn_mul, jn_sub, jn_cl, jn_vin, jn_shl1, jn_shr, jn_or, jn_l_or0, jn_and1, jo_ltT, jo_ltF, jo_leT, jo_leF, jo_eqT, jo_eqF, true_or, or_true, true_and, and_true, false_or, or_false, false_and, and_false, if_true, if_false, not_true_eq_false, not_false_eq_true, jx_tab, eX8_readOffice, c1', c2, g, hq]
      · have c0' : ¬ nI c = 0 := fun z => hc0 ((jn_eq (b := 0) (by omega) (by decide)).mp z)
        by_cases han : a < n
        · rw [if_neg (by omega)] at hq
          simp (disch := first | assumption | omega | decide) only [jx_qI_a, jx_qV_a, jx_qL_a, jn_lt, jn_le, jn_eq, jn_L, jn_A, jn_N, jn_LL, jn_add, jn_mul, jn_sub, jn_cl, jn_vin, jn_shl1, jn_shr, jn_or, jn_l_or0, jn_and1, jo_ltT, jo_ltF, jo_leT, jo_leF, jo_eqT, jo_eqF, true_or, or_true, true_and, and_true, false_or, or_false, false_and, and_false, if_true, if_false, not_true_eq_false, not_false_eq_true, jx_tab, eX8_readOffice, c1, c0', c2, g, hq]
        · by_cases e : a = n
          · rw [if_pos (by omega)] at hq
            have e' : b + a = b + n := by omega
            simp (disch := first | assumption | omega | decide) only [jx_qI_a, jx_qV_a, jx_qL_a, jn_lt, jn_le, jn_eq, jn_L, jn_A, jn_N, jn_LL, jn_add, jn_mul, jn_sub, jn_cl, jn_vin, jn_shl1, jn_shr, jn_or, jn_l_or0, jn_and1, jo_ltT, jo_ltF, jo_leT, jo_leF, jo_eqT, jo_eqF, true_or, or_true, true_and, and_true, false_or, or_false, false_and, and_false, if_true, if_false, not_true_eq_false, not_false_eq_true, jx_tab, eX8_readOffice, c1, c0', c2, hq]
          · rw [if_neg (fun z => e z.2)] at hq
            have e' : ¬ b + a = b + n := by omega
            simp (disch := first | assumption | omega | decide) only [jx_qI_a, jx_qV_a, jx_qL_a, jn_lt, jn_le, jn_eq, jn_L, jn_A, jn_N, jn_LL, jn_add, jn_mul, jn_sub, jn_cl, jn_vin, jn_shl1, jn_shr, jn_or, jn_l_or0, jn_and1, jo_ltT, jo_ltF, jo_leT, jo_leF, jo_eqT, jo_eqF, true_or, or_true, true_and, and_true, false_or, or_false, false_and, and_false, if_true, if_false, not_true_eq_false, not_false_eq_true, jx_tab, eX8_readOffice, c1, c0', c2, hq]
end TG3
