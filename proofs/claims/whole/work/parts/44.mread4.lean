/-! office: readOffice, takeOffice -/
theorem tf_pe_pos {v : Nat → Int32} {n : Nat} : ∀ r p a s s' a', 0 < s 0 0 → tf_pe v n r p a s = (some s', a') → 0 < s' 0 0
  | 0, p, a, s, s', a', h, e => by
    rw [tf_pe] at e
    cases e
    exact h
  | r + 1, p, a, s, s', a', h, e => by
    rw [tf_pe] at e
    by_cases hk : tf_K v n a = 44
    · rw [if_pos hk] at e
      rcases hd : tf_dg v n (a + 1) 0 9 with _ | x
      · rw [hd] at e; cases e
      · rw [hd] at e
        rcases hd2 : tf_dg v n (a + 2) 0 5 with _ | y
        · rw [hd2] at e; cases e
        · rw [hd2] at e
          exact tf_pe_pos r (p + 1) (a + 3) (tf_s2 s p x y) s' a' (by simp [tf_s2]) e
    · rw [if_neg hk] at e
      cases e
      exact h
section TG4
variable {d b n : Nat} {v : Nat → Int32} {M : jx_M}
theorem tf_moffice {q : Int32 → jx_M → Prop} (hb : b + n ≤ 240) (hc : tf_m M b n v 0)
    (k1 : ∀ M' s a, tf_all v n = (some s, a) → tf_mf M' M → tf_Q M' s → q 1 M')
    (k0 : ∀ M' a, tf_all v n = (none, a) → tf_mf M' M → M' 36 14 = nI (b + a) → q 0 M') : jx_I (d + 3) mX8_readOffice [.ref 36, .int (nI (b + n))] M q := by
  have n0 : (0 : Int32) = nI 0 := fa_lit 0
  have n9 : (9 : Int32) = nI 9 := fa_lit 9
  have n3 : (3 : Int32) = nI 3 := fa_lit 3
  have ne9 : ∀ x, x ≤ 9 → ¬ nI x = -9 := fun x hx z => by
    have := nI_pos (n := x) (by omega)
    rw [z] at this
    exact this (by decide)
  have hcA : tf_m (jx_up (jx_up M 36 17 0) 36 18 0) b n v 0 := tf_m_up (tf_m_up hc (by omega) (by decide)) (by omega) (by decide)
  have frA : tf_mf (jx_up (jx_up M 36 17 0) 36 18 0) M := (tf_mf_up (by omega)).trans (tf_mf_up (by omega))
  have x17 : jx_up (jx_up M 36 17 0) 36 18 0 36 17 = 0 := by rw [jx_upB (by decide), jx_upS]
  have x18 : jx_up (jx_up M 36 17 0) 36 18 0 36 18 = 0 := jx_upS _ _ _ _
  unfold tf_all at k1 k0
  generalize hA : jx_up (jx_up M 36 17 0) 36 18 0 = A at hcA frA x17 x18
  have g := fun d q => tf_sign (d := d) (q := q) (x := 116) hb hcA (by omega) (by decide)
  by_cases hk : tf_K v n 0 = 116
  · simp only [hk, if_true] at g
    rw [if_pos hk] at k1 k0
    have hc1 := tf_m_at (a' := 0 + 1) hcA
    have fr1 : tf_mf (jx_up A 36 14 (nI (b + (0 + 1)))) M := (tf_mf_up (by omega)).trans frA
    rcases hd : tf_dg v n (0 + 1) 0 3 with _ | x
    · have g2 := fun d q => tf_mdig_n (d := d) (q := q) hb hc1 (by omega) (by decide) (by decide) hd
      rw [← n0, ← n3] at g2
      have hd' : tf_dg v n 1 0 3 = none := hd
      rw [hd'] at k0
      have e1 := jx_upS (jx_up A 36 14 (nI (b + (0 + 1)))) 36 15 (-9)
      have hq := k0 (jx_up (jx_up A 36 14 (nI (b + (0 + 1)))) 36 15 (-9)) 1 rfl ((tf_mf_up (by omega)).trans fr1) (by rw [jx_upB (by decide), jx_upS])
      simp (disch := first | assumption | omega | decide) only [jx_qI_a, jx_qV_a, jx_qL_a, jn_lt, jn_le, jn_eq, jn_L, jn_A, jn_N, jn_LL, jn_add, jn_mul, jn_sub, jn_cl, jn_vin, jn_shl1, jn_shr, jn_or, jn_l_or0, jn_and1, jo_ltT, jo_ltF, jo_leT, jo_leF, jo_eqT, jo_eqF, true_or, or_true, true_and, and_true, false_or, or_false, false_and, and_false, if_true, if_false, not_true_eq_false, not_false_eq_true, jx_tab, kX8_readOffice, eX8_readOffice, hA, g, g2, e1, hq]
    · have g2 := fun d q => tf_mdig_y (d := d) (q := q) hb hc1 (by omega) (by decide) (by decide) hd
      rw [← n0, ← n3] at g2
      have hd' : tf_dg v n 1 0 3 = some x := hd
      rw [hd'] at k0 k1
      obtain ⟨-, -, hx, -⟩ := tf_dg_y (by decide) (by decide) hd
      have w := ne9 x (by omega)
      have hc2 := tf_m_up (x := 36) (y := 15) (z := nI x) (tf_m_at (a' := 0 + 1 + 1) hc1) (by omega) (by decide)
      have fr2 : tf_mf (jx_up (jx_up (jx_up A 36 14 (nI (b + (0 + 1)))) 36 14 (nI (b + (0 + 1 + 1)))) 36 15 (nI x)) M := ((tf_mf_up (by omega)).trans (tf_mf_up (by omega))).trans fr1
      have e1 := jx_upS (jx_up (jx_up A 36 14 (nI (b + (0 + 1)))) 36 14 (nI (b + (0 + 1 + 1)))) 36 15 (nI x)
      have y17 : jx_up (jx_up (jx_up A 36 14 (nI (b + (0 + 1)))) 36 14 (nI (b + (0 + 1 + 1)))) 36 15 (nI x) 36 17 = 0 := by rw [jx_upB (by decide), jx_upB (by decide), jx_upB (by decide)]; exact x17
      have y18 : jx_up (jx_up (jx_up A 36 14 (nI (b + (0 + 1)))) 36 14 (nI (b + (0 + 1 + 1)))) 36 15 (nI x) 36 18 = 0 := by rw [jx_upB (by decide), jx_upB (by decide), jx_upB (by decide)]; exact x18
      generalize hB : jx_up (jx_up (jx_up A 36 14 (nI (b + (0 + 1)))) 36 14 (nI (b + (0 + 1 + 1)))) 36 15 (nI x) = B at hc2 fr2 e1 y17 y18
      rcases hd2 : tf_dg v n (0 + 1 + 1) 0 9 with _ | y
      · have g3 := fun d q => tf_mdig_n (d := d) (q := q) hb hc2 (by omega) (by decide) (by decide) hd2
        rw [← n0, ← n9] at g3
        have hd2' : tf_dg v n 2 0 9 = none := hd2
        simp only [hd2'] at k0
        have e2 := jx_upS B 36 16 (-9)
        have hq := k0 (jx_up B 36 16 (-9)) 2 rfl ((tf_mf_up (by omega)).trans fr2) (by rw [jx_upB (by decide)]; exact hc2.1)
        simp (disch := first | assumption | omega | decide) only [jx_qI_a, jx_qV_a, jx_qL_a, jn_lt, jn_le, jn_eq, jn_L, jn_A, jn_N, jn_LL, jn_add, jn_mul, jn_sub, jn_cl, jn_vin, jn_shl1, jn_shr, jn_or, jn_l_or0, jn_and1, jo_ltT, jo_ltF, jo_leT, jo_leF, jo_eqT, jo_eqF, true_or, or_true, true_and, and_true, false_or, or_false, false_and, and_false, if_true, if_false, not_true_eq_false, not_false_eq_true, jx_tab, kX8_readOffice, eX8_readOffice, hA, g, g2, hB, e1, g3, e2, w, hq]
      · have g3 := fun d q => tf_mdig_y (d := d) (q := q) hb hc2 (by omega) (by decide) (by decide) hd2
        rw [← n0, ← n9] at g3
        have hd2' : tf_dg v n 2 0 9 = some y := hd2
        simp only [hd2'] at k0 k1
        obtain ⟨-, -, hy, -⟩ := tf_dg_y (by decide) (by decide) hd2
        have w2 := ne9 y hy
        have hc3 : tf_m (jx_up (jx_up B 36 14 (nI (b + (0 + 1 + 1 + 1)))) 36 16 (nI y)) b n v 3 := tf_m_up (x := 36) (y := 16) (z := nI y) (tf_m_at (a' := 0 + 1 + 1 + 1) hc2) (by omega) (by decide)
        have fr3 : tf_mf (jx_up (jx_up B 36 14 (nI (b + (0 + 1 + 1 + 1)))) 36 16 (nI y)) M := ((tf_mf_up (by omega)).trans (tf_mf_up (by omega))).trans fr2
        have e2 := jx_upS (jx_up B 36 14 (nI (b + (0 + 1 + 1 + 1)))) 36 16 (nI y)
        have hQ : tf_Q (jx_up (jx_up B 36 14 (nI (b + (0 + 1 + 1 + 1)))) 36 16 (nI y)) (tf_s0 x y) := by
          refine ⟨?_, ?_, ?_, ?_, fun p' hp' => ?_, fun c' hcc' => ?_⟩
          · rw [jx_upB (by decide), jx_upB (by decide), y17]; rfl
          · rw [jx_upB (by decide), jx_upB (by decide), y18]; rfl
          · rw [jx_upB (by decide), jx_upB (by decide), ← hB, jx_upS]; rfl
          · rw [jx_upS]; rfl
          · simp [tf_s0] at hp'
          · simp [tf_s0] at hcc'
        generalize hE : jx_up (jx_up B 36 14 (nI (b + (0 + 1 + 1 + 1)))) 36 16 (nI y) = E at hc3 fr3 e2 hQ
        have after : ∀ N s1 a1, tf_pe v n 5 0 3 (tf_s0 x y) = (some s1, a1) → 0 < s1 0 0 → tf_mf N E → tf_m N b n v a1 → tf_Q N s1 → a1 ≤ 18 → jx_Ev (d + 3) mX8_readOffice 113 [some (.ref 36), some (.int (nI (b + n)))] [] N (jx_qI q) := by
          intro N s1 a1 hp h0 f1 f2 f3 f4
          obtain ⟨g1, g2⟩ := tf_pe_rg 5 0 3 _ s1 a1 rfl (by simp [tf_s0]) (by simp [tf_s0]) (tf_s0_rg hx hy) hp
          simp only [hp, tf_b1, if_pos h0] at k0 k1
          refine tf_mclaps (d := d) hb h0 g1.1 (Q := jx_qI q) 6 0 a1 s1 N rfl (by omega) g2 rfl f2 f3 (fun M3 s3 a3 y1 y2 y3 y4 => ?_) (fun M3 a3 y1 y2 y3 => ?_)
          · rw [jx_qI_a]
            simp only [y1, tf_b2] at k0 k1
            by_cases h3 : 0 < s3 0 1 ∧ a3 = n
            · rw [if_pos h3] at k1 ⊢
              exact k1 M3 s3 a3 rfl (y2.trans (f1.trans fr3)) y4
            · rw [if_neg h3] at k0 ⊢
              exact k0 M3 a3 rfl (y2.trans (f1.trans fr3)) y3
          · rw [jx_qI_a]
            simp only [y1, tf_b2] at k0
            exact k0 M3 a3 rfl (y2.trans (f1.trans fr3)) y3
        have g4 := fun d q => tf_sign (d := d) (q := q) (x := 44) hb hc3 (by omega) (by decide)
        by_cases hk2 : tf_K v n 3 = 44
        · simp only [hk2, if_true] at g4
          have hc4 := tf_m_at (a' := 3 + 1) hc3
          have hQ4 : tf_Q (jx_up E 36 14 (nI (b + (3 + 1)))) (tf_s0 x y) := tf_Q_up hQ rfl
          have fr4 : tf_mf (jx_up E 36 14 (nI (b + (3 + 1)))) E := tf_mf_up (by omega)
          have rest : jx_I (d + 2) mX8_readPerson [.ref 36, .int (nI (b + n))] (jx_up E 36 14 (nI (b + (3 + 1)))) (fun x M => if x = 0 then q 0 M else jx_Ev (d + 3) mX8_readOffice 85 [some (.ref 36), some (.int (nI (b + n)))] [] M (jx_qI q)) := by
            refine tf_mperson (p := 0) (a := 3 + 1) (d := d) hb hc4 (by omega) (by omega) hQ4 rfl (fun M' q1 f1 f2 => ?_) (fun x' M' q1 q2 f1 f2 => ?_) (fun x' y' M' q1 q2 f1 f2 f3 => ?_)
            · have hp : tf_pe v n 5 0 3 (tf_s0 x y) = (none, 4) := by rw [tf_pe, if_pos hk2, q1]
              simp only [hp, tf_b1] at k0
              rw [if_pos rfl]
              exact k0 M' 4 rfl (f1.trans (fr4.trans fr3)) f2
            · have hp : tf_pe v n 5 0 3 (tf_s0 x y) = (none, 5) := by rw [tf_pe, if_pos hk2, q1]; simp only [show 3 + 2 = 3 + 1 + 1 from rfl, q2]
              simp only [hp, tf_b1] at k0
              rw [if_pos rfl]
              exact k0 M' 5 rfl (f1.trans (fr4.trans fr3)) f2
            · have hp : tf_pe v n 5 0 3 (tf_s0 x y) = tf_pe v n 4 1 6 (tf_s2 (tf_s0 x y) 0 x' y') := by rw [tf_pe, if_pos hk2, q1]; simp only [show 3 + 2 = 3 + 1 + 1 from rfl, q2]
              rw [if_neg (by decide)]
              refine tf_mpeople hb (Q := jx_qI q) 4 1 6 (tf_s2 (tf_s0 x y) 0 x' y') M' rfl rfl (by simp [tf_s2]) f2 f3 (fun M2 s2 a2 w1 w2 w3 w4 w5 => ?_) (fun M2 a2 w1 w2 w3 => ?_)
              · refine after M2 s2 a2 (hp.trans w1) (tf_pe_pos 4 1 6 _ s2 a2 (by simp [tf_s2]) w1) (w2.trans (f1.trans fr4)) w3 w4 w5
              · rw [jx_qI_a]
                simp only [hp.trans w1, tf_b1] at k0
                exact k0 M2 a2 rfl (w2.trans (f1.trans (fr4.trans fr3))) w3
          simp (disch := first | assumption | omega | decide) only [jx_qI_a, jx_qV_a, jx_qL_a, jn_lt, jn_le, jn_eq, jn_L, jn_A, jn_N, jn_LL, jn_add, jn_mul, jn_sub, jn_cl, jn_vin, jn_shl1, jn_shr, jn_or, jn_l_or0, jn_and1, jo_ltT, jo_ltF, jo_leT, jo_leF, jo_eqT, jo_eqF, true_or, or_true, true_and, and_true, false_or, or_false, false_and, and_false, if_true, if_false, not_true_eq_false, not_false_eq_true, jx_tab, kX8_readOffice, eX8_readOffice, hA, g, g2, hB, e1, g3, hE, e2, w, w2, g4]
          exact rest
        · simp only [hk2, if_false] at g4
          have hp : tf_pe v n 5 0 3 (tf_s0 x y) = (some (tf_s0 x y), 3) := by rw [tf_pe, if_neg hk2]
          have h00 : ¬ 0 < tf_s0 x y 0 0 := by simp [tf_s0]
          simp only [hp, tf_b1, if_neg h00] at k0
          have hq := k0 E 3 rfl fr3 hc3.1
          simp (disch := first | assumption | omega | decide) only [jx_qI_a, jx_qV_a, jx_qL_a, jn_lt, jn_le, jn_eq, jn_L, jn_A, jn_N, jn_LL, jn_add, jn_mul, jn_sub, jn_cl, jn_vin, jn_shl1, jn_shr, jn_or, jn_l_or0, jn_and1, jo_ltT, jo_ltF, jo_leT, jo_leF, jo_eqT, jo_eqF, true_or, or_true, true_and, and_true, false_or, or_false, false_and, and_false, if_true, if_false, not_true_eq_false, not_false_eq_true, jx_tab, kX8_readOffice, eX8_readOffice, hA, g, g2, hB, e1, g3, hE, e2, w, w2, g4, hq]
  · simp only [hk, if_false] at g
    rw [if_neg hk] at k0
    have hq := k0 A 0 rfl frA hcA.1
    simp (disch := first | assumption | omega | decide) only [jx_qI_a, jx_qV_a, jx_qL_a, jn_lt, jn_le, jn_eq, jn_L, jn_A, jn_N, jn_LL, jn_add, jn_mul, jn_sub, jn_cl, jn_vin, jn_shl1, jn_shr, jn_or, jn_l_or0, jn_and1, jo_ltT, jo_ltF, jo_leT, jo_leF, jo_eqT, jo_eqF, true_or, or_true, true_and, and_true, false_or, or_false, false_and, and_false, if_true, if_false, not_true_eq_false, not_false_eq_true, jx_tab, kX8_readOffice, eX8_readOffice, hA, g, hq]
end TG4
