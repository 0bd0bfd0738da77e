section TPF3
variable {d : Nat} {M : jx_M}
theorem op_shelf (h : tp_I M) (a b c i n : Int32) : jx_I (d + 20) mX7_shelf [.ref 0, .int a, .int b, .int c, .int i, .int n] M (fun r M1 => jx_I (d + 20) mX8_shelf [.ref 36, .int a, .int b, .int c, .int i, .int n] M1 (fun r2 M2 => r = r2 ∧ tp_I M2)) := by
  obtain ⟨s, o, hJ⟩ := h
  obtain ⟨ho, h06, h07, hr, hC, hD, hf, ht, hrd, hsh⟩ := id hJ
  have hoo : o = 16 ∨ o = 22 := ho
  have fin0 : tp_I (jx_up (jx_up M 0 9 0) 36 0 0) := ⟨s, o, tp_J_f 0 hJ (by simp [jx_upE]) (by simp [jx_upE]) (fun a b q1 q2 => by simp only [jx_upE, if_neg q1, if_neg q2])⟩
  rcases jx_ix b (n := 4) (by omega) with hn | ⟨k, hk, rfl⟩
  · have g3 := fun M d q => tp_isSheet_n (d := d) (q := q) (M := M) hn
    have g4 := fun M d q => tq_isSheet_n (d := d) (q := q) (M := M) hn
    have hx : ∀ q : Int32 → jx_M → Prop, q (-1) (jx_up M 0 9 0) → jx_I (d + 20) mX7_shelf [.ref 0, .int a, .int b, .int c, .int i, .int n] M q := by
      intro q hq
      simp (disch := first | assumption | omega | decide) only [kX7_shelf, ↓eX7_shelf, ↓g3, jx_qI_a, jn_LL, if_true, if_false, hq]
    have hm : ∀ q : Int32 → jx_M → Prop, q (-1) (jx_up (jx_up M 0 9 0) 36 0 0) → jx_I (d + 20) mX8_shelf [.ref 36, .int a, .int b, .int c, .int i, .int n] (jx_up M 0 9 0) q := by
      intro q hq
      simp (disch := first | assumption | omega | decide) only [kX8_shelf, ↓eX8_shelf, ↓g4, jx_qI_a, jn_LL, if_true, if_false, hq]
    exact hx _ (hm _ ⟨rfl, fin0⟩)
  · have g3 := fun M d q => tp_isSheet_y (d := d) (q := q) (M := M) hk
    have g4 := fun M d q => tq_isSheet_y (d := d) (q := q) (M := M) hk
    obtain ⟨t1, t2, t3, t4⟩ := tp_St hk
    obtain ⟨lane, len, hs⟩ := hsh k hk
    rcases jx_ix a (n := 10) (by omega) with hn | ⟨m, hm10, rfl⟩
    · have g5 := fun M d q => tp_isMonth_n (d := d) (q := q) (M := M) hn
      have g6 := fun M d q => tq_isMonths_n (d := d) (q := q) (M := M) hn
      have hx : ∀ q : Int32 → jx_M → Prop, q (-2) (jx_up M 0 9 0) → jx_I (d + 20) mX7_shelf [.ref 0, .int a, .int (nI k), .int c, .int i, .int n] M q := by
        intro q hq
        simp (disch := first | assumption | omega | decide) only [kX7_shelf, ↓eX7_shelf, ↓g3, ↓g5, jx_qI_a, jn_LL, if_true, if_false, hq]
      have hm : ∀ q : Int32 → jx_M → Prop, q (-2) (jx_up (jx_up M 0 9 0) 36 0 0) → jx_I (d + 20) mX8_shelf [.ref 36, .int a, .int (nI k), .int c, .int i, .int n] (jx_up M 0 9 0) q := by
        intro q hq
        simp (disch := first | assumption | omega | decide) only [kX8_shelf, ↓eX8_shelf, ↓g4, ↓g6, jx_qI_a, jn_LL, if_true, if_false, hq]
      exact hx _ (hm _ ⟨rfl, fin0⟩)
    · have g5 := fun M d q => tp_isMonth_y (d := d) (q := q) (M := M) hm10
      have g6 := fun M d q => tq_isMonths_y (d := d) (q := q) (M := M) hm10
      rcases jx_ix c (n := 3) (by omega) with hn | ⟨ln, hl, rfl⟩
      · have g7 := fun M d q => tp_isLane_n (d := d) (q := q) (M := M) hn
        have g8 := fun M d q => tq_isSort_n (d := d) (q := q) (M := M) hn
        have hx : ∀ q : Int32 → jx_M → Prop, q (-2) (jx_up M 0 9 0) → jx_I (d + 20) mX7_shelf [.ref 0, .int (nI m), .int (nI k), .int c, .int i, .int n] M q := by
          intro q hq
          simp (disch := first | assumption | omega | decide) only [kX7_shelf, ↓eX7_shelf, ↓g3, ↓g5, ↓g7, jx_qI_a, jn_LL, if_true, if_false, hq]
        have hm : ∀ q : Int32 → jx_M → Prop, q (-2) (jx_up (jx_up M 0 9 0) 36 0 0) → jx_I (d + 20) mX8_shelf [.ref 36, .int (nI m), .int (nI k), .int c, .int i, .int n] (jx_up M 0 9 0) q := by
          intro q hq
          simp (disch := first | assumption | omega | decide) only [kX8_shelf, ↓eX8_shelf, ↓g4, ↓g6, ↓g8, jx_qI_a, jn_LL, if_true, if_false, hq]
        exact hx _ (hm _ ⟨rfl, fin0⟩)
      · have g7 := fun M d q => tp_isLane_y (d := d) (q := q) (M := M) hl
        have g8 := fun M d q => tq_isSort_y (d := d) (q := q) (M := M) hl
        rcases jx_ix n (n := 21) (by omega) with hn | ⟨cnt, hcnt, rfl⟩
        · have hx : ∀ q : Int32 → jx_M → Prop, q (-2) (jx_up M 0 9 0) → jx_I (d + 20) mX7_shelf [.ref 0, .int (nI m), .int (nI k), .int (nI ln), .int i, .int n] M q := by
            intro q hq
            by_cases hb : n < 0
            · simp (disch := first | assumption | omega | decide) only [kX7_shelf, ↓eX7_shelf, ↓g3, ↓g5, ↓g7, hb, jx_qI_a, jn_LL, if_true, if_false, hq]
            · have hb2 := hn.resolve_left hb
              have hb3 : ¬ n ≤ 20 := jn_nle (n := 20) (by decide) hb2
              simp (disch := first | assumption | omega | decide) only [kX7_shelf, ↓eX7_shelf, ↓g3, ↓g5, ↓g7, hb, hb3, jx_qI_a, jn_LL, if_true, if_false, hq]
          have hm : ∀ q : Int32 → jx_M → Prop, q (-2) (jx_up (jx_up M 0 9 0) 36 0 0) → jx_I (d + 20) mX8_shelf [.ref 36, .int (nI m), .int (nI k), .int (nI ln), .int i, .int n] (jx_up M 0 9 0) q := by
            intro q hq
            have e : (20 : Int32) < n ↔ nI 21 ≤ n := (jn_ge (n := 20) (by decide)).symm
            by_cases hb : n < 0
            · simp (disch := first | assumption | omega | decide) only [kX8_shelf, ↓eX8_shelf, ↓g4, ↓g6, ↓g8, ↓tq_within, hb, jx_qI_a, jn_LL, if_true, if_false, hq]
            · have hb2 := hn.resolve_left hb
              simp (disch := first | assumption | omega | decide) only [kX8_shelf, ↓eX8_shelf, ↓g4, ↓g6, ↓g8, ↓tq_within, hb, e, hb2, jx_qI_a, jn_LL, if_true, if_false, hq]
          exact hx _ (hm _ ⟨rfl, fin0⟩)
        · obtain ⟨e, he4, he0, hx0, hm0⟩ := tp_ag hs hk hl i (nI cnt)
          have m1 : ∀ b, jx_up M 0 9 0 (28 + 2 * k) b = M (28 + 2 * k) b := fun b => by rw [jx_upE, if_neg (by omega)]
          have g9 := fun d q => hx0 d q (jx_up M 0 9 0) m1
          by_cases hez : e = 0
          · subst hez
            obtain ⟨rfl, a1, x, m', rfl, hcm, him⟩ := he0 rfl
            have hcm : cnt = m' := (jn_eq (by omega) (by have := hs.2.1; omega)).mp hcm
            subst hcm
            have hlen := hs.2.1
            have r2 := hr.2.1
            have e60 : jx_rv (jx_up M 0 9 0 0 6) = .ref o := by rw [jx_upE, if_neg (by omega), h06]; exact tp_rvn (by omega)
            have hC0 : tp_C (jx_up M 0 9 0) o s := tp_C_fr hC (fun a b q1 q2 => by rw [jx_upE, if_neg (by omega)])
            have hrt : ∀ j, tp_clp (s 0 1) (M (28 + 2 * k + 1) (x + j)) → M (28 + 2 * k + 1) (x + j) = nI (M (28 + 2 * k + 1) (x + j)).toNatClampNeg ∧ (M (28 + 2 * k + 1) (x + j)).toNatClampNeg < s 0 1 := by
              intro j hj
              obtain ⟨c, hc, ec⟩ := hj
              rw [ec, jn_cl (by omega)]
              exact ⟨rfl, hc⟩
            obtain ⟨o0, o1, o2, o3, o4, o5, z1, z2, z3, z4, z5⟩ := tp_Ot ho
            have hx : ∀ q : Int32 → jx_M → Prop, (∀ M1 : jx_M, (∀ a b, a ≠ 13 → a ≠ 14 → a ≠ 15 → M1 a b = jx_up M 0 9 0 a b) → (∀ j, j < cnt → tp_clp (s 0 1) (M (28 + 2 * k + 1) (x + j))) → q (tp_fw s m (fun j => (M (28 + 2 * k + 1) (x + j)).toNatClampNeg) 0 0 cnt) M1) → (∀ M1 : jx_M, (∀ a b, a ≠ 13 → a ≠ 14 → a ≠ 15 → M1 a b = jx_up M 0 9 0 a b) → (∃ j, j < cnt ∧ ¬ tp_clp (s 0 1) (M (28 + 2 * k + 1) (x + j))) → q (-1) M1) → jx_I (d + 20) mX7_shelf [.ref 0, .int (nI m), .int (nI k), .int (nI lane), .int (nI x), .int (nI cnt)] M q := by
              intro q hq1 hq0
              simp (disch := first | assumption | omega | decide) only [kX7_shelf, ↓eX7_shelf, ↓g3, ↓g5, ↓g7, t4, eX7_shelf, ↓g9, e60, jn_vin, jn_L, jn_eq, jn_LL, jo_ltT, jo_ltF, jo_leT, jo_leF, jo_eqT, jo_eqF, jx_qI_a, if_true, if_false, true_and]
              refine tp_measure (d := d + 17) ho hr hC0 (show m ≤ 9 by omega) (fun Ma ea hF => ?_)
              simp (disch := first | assumption | omega | decide) only [eX7_shelf, t4, jn_vin, jo_ltT, true_and, kX5_takeRow, eX5_takeRow]
              refine tp_tr_l (d := d + 18) (m := m) (v := fun j => M (28 + 2 * k + 1) j) (len := len) hr t1 t2 t3 (by omega) hlen (by omega) him cnt 0 _ (Nat.zero_add cnt) hF (by rw [ea _ _ (by omega) (by omega), m1]; exact hs.2.2.2.1) (fun j => by rw [ea _ _ (by omega) (by omega), jx_upE, if_neg (by omega)]) (fun j hj => by omega) (fun Mb e1 e2 e3 => ?_) (fun Mb e1 e2 => ?_)
              · have hFb : tp_F Mb s m := tp_F_fr hF (fun a b z => e1 _ _ (by omega))
                have gf := tp_fw_l (d := d + 17) (n := cnt) (r := fun j => (M (28 + 2 * k + 1) (x + j)).toNatClampNeg) hr (show m ≤ 9 by omega) hFb (by omega) (fun j hj => by
                  have e2j : Mb 14 j = M (28 + 2 * k + 1) (x + j) := e2 j hj
                  rw [e2j]
                  exact hrt j (e3 j (Nat.zero_le j) hj)) (Q := jx_qI q) cnt 0 0 (Nat.zero_add cnt) (by decide)
                rw [jx_qI_a] at gf
                have hqq := hq1 Mb (fun a b z1 z2 z3 => by rw [e1 a b z2, ea a b z1 z3]) (fun j hj => e3 j (Nat.zero_le j) hj)
                simp (disch := first | assumption | omega | decide) only [jx_qI_a, jn_LL, if_true, if_false, eX7_shelf, kX5_firstWrong, eX5_firstWrong]
                exact gf.mpr hqq
              · have hqq := hq0 Mb (fun a b z1 z2 z3 => by rw [e1 a b z2, ea a b z1 z3]) (by obtain ⟨j, -, h2, h3⟩ := e2; exact ⟨j, h2, h3⟩)
                simp (disch := first | assumption | omega | decide) only [jx_qI_a, jn_LL, if_true, if_false, eX7_shelf, hqq]
            have hm : ∀ (M1 : jx_M) (e1 : ∀ a b, a ≠ 13 → a ≠ 14 → a ≠ 15 → M1 a b = jx_up M 0 9 0 a b) (q : Int32 → jx_M → Prop), ((∀ j, j < cnt → tp_clp (s 0 1) (M (28 + 2 * k + 1) (x + j))) → q (tp_fw s m (fun j => (M (28 + 2 * k + 1) (x + j)).toNatClampNeg) 0 0 cnt) (jx_up M1 36 0 0)) → ((∃ j, j < cnt ∧ ¬ tp_clp (s 0 1) (M (28 + 2 * k + 1) (x + j))) → q (-1) (jx_up M1 36 0 0)) → jx_I (d + 20) mX8_shelf [.ref 36, .int (nI m), .int (nI k), .int (nI lane), .int (nI x), .int (nI cnt)] M1 q := by
              intro M1 e1 q hq1 hq0
              have ev : ∀ a b, 36 ≤ a → jx_up M1 36 0 0 a b = jx_up M 36 0 0 a b := fun a b z => by
                rw [jx_upE, jx_upE]
                by_cases w : a = 36 ∧ b = 0
                · rw [if_pos w, if_pos w]
                · rw [if_neg w, if_neg w, e1 a b (by omega) (by omega) (by omega), jx_upE, if_neg (by omega)]
              have hD1 : tp_D (jx_up M1 36 0 0) s := tp_D_fr hD (fun b q1 q2 => by rw [ev _ _ (by omega), jx_upE, if_neg (by omega)]) (fun a b q1 q2 => by rw [ev _ _ (by omega), jx_upE, if_neg (by omega)])
              have g10 := fun d q => hm0 d q (jx_up M1 36 0 0) (by rw [ev _ _ (by omega), jx_upE, if_neg (by omega)]) (by rw [ev _ _ (by omega), jx_upE, if_neg (by omega)])
              have hcell : ∀ j, j < 60 → jx_up M1 36 0 0 39 (60 * k + j) = M (28 + 2 * k + 1) j := fun j hj => by
                rw [ev _ _ (by omega), jx_upE, if_neg (by omega)]
                exact hs.2.2.2.2.2.2 j hj
              have fin := tq_tr_l (d := d) hr hD1 (v := fun j => M (28 + 2 * k + 1) j) (l1 := some (.int (nI m))) (l3 := some (.int (nI lane))) (l4 := some (.int (nI x))) (l6 := some (.int (nI 0))) (l9 := none) (l10 := none) (n := cnt) (a := x) hk (by omega) (by omega) hcell (Q := jx_qI q) (fun hall => by
                have g := tq_fw_l (d := d) (l3 := some (.int (nI lane))) (l4 := some (.int (nI x))) (l6 := some (.int (nI 0))) (r := fun j => (M (28 + 2 * k + 1) (x + j)).toNatClampNeg) hr hD1 (show m ≤ 9 by omega) hk (show cnt ≤ 20 by omega) (show x + cnt ≤ 60 by omega) (fun j hj => by
                  have ec := hcell (x + j) (by omega)
                  rw [← Nat.add_assoc] at ec
                  rw [ec]
                  exact hrt j (hall j hj)) (Q := jx_qI q) cnt 0 0 none (Nat.zero_add cnt) (by decide)
                rw [jx_qI_a] at g
                exact g.mpr (hq1 hall)) (fun hbad => by rw [jx_qI_a]; exact hq0 hbad) cnt 0 (Nat.zero_add cnt) (fun j hj => by omega)
              simp (disch := first | assumption | omega | decide) only [kX8_shelf, ↓eX8_shelf, ↓g4, ↓g6, ↓g8, ↓tq_within, ↓g10, jn_L, jn_A, jn_add, jn_eq, jo_ltT, jo_ltF, jo_eqF, jo_eqT, jx_qI_a, jn_LL, if_true, if_false, eX8_shelf]
              exact fin
            have fin : ∀ M1 : jx_M, (∀ a b, a ≠ 13 → a ≠ 14 → a ≠ 15 → M1 a b = jx_up M 0 9 0 a b) → tp_I (jx_up M1 36 0 0) := by
              intro M1 e1
              refine ⟨s, o, tp_J_fr (M := jx_up (jx_up M 0 9 0) 36 0 0) (tp_J_f 0 hJ (by simp [jx_upE]) (by simp [jx_upE]) (fun a b q1 q2 => by simp only [jx_upE, if_neg q1, if_neg q2])) (fun a b hc => ?_)⟩
              have hc' : (a = 0 ∧ 6 ≤ b ∧ b ≤ 9) ∨ (o ≤ a ∧ a ≤ o + 5) ∨ (a = 36 ∧ (b ≤ 8 ∨ b = 27)) ∨ (40 ≤ a ∧ a ≤ 44) ∨ (3 ≤ a ∧ a ≤ 6) ∨ (53 ≤ a ∧ a ≤ 55) ∨ (28 ≤ a ∧ a ≤ 39 ∧ a ≠ 36) := hc
              have z1 : a ≠ 13 := by omega
              have z2 : a ≠ 14 := by omega
              have z3 : a ≠ 15 := by omega
              rw [jx_upE, jx_upE (M := jx_up M 0 9 0)]
              by_cases z : a = 36 ∧ b = 0
              · rw [if_pos z, if_pos z]
              · rw [if_neg z, if_neg z, e1 a b z1 z2 z3]
            refine hx _ (fun M1 e1 e3 => hm M1 e1 _ (fun _ => ⟨rfl, fin M1 e1⟩) (fun hb => ?_)) (fun M1 e1 e2 => hm M1 e1 _ (fun hall => ?_) (fun _ => ⟨rfl, fin M1 e1⟩))
            · obtain ⟨j, h1, h2⟩ := hb
              exact absurd (e3 j h1) h2
            · obtain ⟨j, h1, h2⟩ := e2
              exact absurd (hall j h1) h2
          · have hx : ∀ q : Int32 → jx_M → Prop, q (-10 - nI e) (jx_up (jx_up M 0 9 0) 0 9 (nI e)) → jx_I (d + 20) mX7_shelf [.ref 0, .int (nI m), .int (nI k), .int (nI ln), .int i, .int (nI cnt)] M q := by
              intro q hq
              simp (disch := first | assumption | omega | decide) only [kX7_shelf, ↓eX7_shelf, ↓g3, ↓g5, ↓g7, t4, eX7_shelf, ↓g9, jn_vin, jn_L, jo_ltT, jo_ltF, jo_leT, jo_eqF, jx_qI_a, jn_LL, if_true, if_false, true_and, ↓tp_faultAnswer, hq]
            have hm : ∀ q : Int32 → jx_M → Prop, q (-10 - nI e) (jx_up (jx_up (jx_up (jx_up M 0 9 0) 0 9 (nI e)) 36 0 0) 36 0 (nI e)) → jx_I (d + 20) mX8_shelf [.ref 36, .int (nI m), .int (nI k), .int (nI ln), .int i, .int (nI cnt)] (jx_up (jx_up M 0 9 0) 0 9 (nI e)) q := by
              intro q hq
              have g10 := fun d q => hm0 d q (jx_up (jx_up (jx_up M 0 9 0) 0 9 (nI e)) 36 0 0) (by simp only [jx_upE]; rw [if_neg (by omega), if_neg (by omega), if_neg (by omega)]) (by simp only [jx_upE]; rw [if_neg (by omega), if_neg (by omega), if_neg (by omega)])
              simp (disch := first | assumption | omega | decide) only [kX8_shelf, ↓eX8_shelf, ↓g4, ↓g6, ↓g8, ↓tq_within, ↓g10, jn_L, jo_ltT, jo_ltF, jo_eqF, jx_qI_a, jn_LL, if_true, if_false, ↓tq_fails, hq]
            exact hx _ (hm _ ⟨rfl, s, o, tp_J_f (nI e) hJ (by simp [jx_upE]) (by simp [jx_upE]) (fun a b q1 q2 => by simp only [jx_upE, if_neg q1, if_neg q2])⟩)
end TPF3
