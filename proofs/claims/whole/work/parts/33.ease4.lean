/-! the call ease -/
section TE4
variable {d : Nat} {M : jx_M}
theorem op_ease (h : tp_I M) (a b : Int32) : jx_I (d + 20) mX7_ease [.ref 0, .int a, .int b] M (fun r M1 => jx_I (d + 20) mX8_ease [.ref 36, .int a, .int b] M1 (fun r2 M2 => r = r2 ∧ tp_I M2)) := by
  have hI := h
  obtain ⟨s, o, hJ⟩ := h
  obtain ⟨ho, h06, h07, hr, hC, hD, hf, ht, hrd, hsh⟩ := id hJ
  have e6 : jx_rv (M 0 6) = .ref o := by rw [h06]; exact tp_rvn (by rcases ho with rfl | rfl <;> decide)
  have hoo : o = 16 ∨ o = 22 := ho
  obtain ⟨o0, o1, o2, o3, o4, o5, z1, z2, z3, z4, z5⟩ := tp_Ot ho
  obtain ⟨r1, r2, r3, r4, r5, r6⟩ := id hr
  rcases jx_ix a (n := s 0 0) (by omega) with hn | ⟨p, hp, rfl⟩
  · have g1 := fun d q => tp_hasPerson_n (d := d) (q := q) ho hr hC hn
    have g2 := fun d q => tq_isPerson_n (d := d) (q := q) hr hD hn
    have hx : ∀ q : Int32 → jx_M → Prop, q (-1) M → jx_I (d + 20) mX7_ease [.ref 0, .int a, .int b] M q := by
      intro q hq
      simp (disch := first | assumption | omega | decide) only [kX7_ease, ↓eX7_ease, ↓g1, e6, jx_qI_a, jn_LL, if_true, if_false, hq]
    have hm : ∀ q : Int32 → jx_M → Prop, q (-1) M → jx_I (d + 20) mX8_ease [.ref 36, .int a, .int b] M q := by
      intro q hq
      simp (disch := first | assumption | omega | decide) only [kX8_ease, ↓eX8_ease, ↓g2, jx_qI_a, jn_LL, if_true, if_false, hq]
    exact hx _ (hm _ ⟨rfl, hI⟩)
  · have g1 := fun d q => tp_hasPerson_y (d := d) (q := q) ho hr hC hp
    have g2 := fun M d q hD => tq_isPerson_y (M := M) (d := d) (q := q) hr hD hp
    have b0 : Nat → Nat := fun _ => 0
    have hbq := te_FG (s := s) r2 (p := p) 6 0 b0 (2147483647, b0) rfl
    have ex : (fun num => te_x b0 0 (te_a s p num)) = te_a s p := by
      funext num j
      rw [te_x, if_neg (by omega)]
    rw [ex] at hbq
    have hlt := te_G_lt (s := s) hr (p := p) (A := te_a s p) (n := 4 ^ te_n s p 0 6) (lo := 0) (b := (2147483647, b0)) (Nat.pow_pos (by decide))
    generalize hG : te_G s p (te_a s p) 0 (4 ^ te_n s p 0 6) (2147483647, b0) = G at hbq hlt
    generalize hF : te_F s p 6 0 b0 (2147483647, b0) = F at hbq
    have hen : te_en G = nI G.1 := by rw [te_en, if_neg (by omega)]
    have fin : ∀ M1 M2 : jx_M, (∀ a b, a ≠ 9 → a ≠ 10 → a ≠ 11 → a ≠ 12 → M1 a b = M a b) → (∀ a b, a ≠ 50 → a ≠ 51 → M2 a b = M1 a b) → tp_I M2 := by
      intro M1 M2 e1 e2
      refine ⟨s, o, tp_J_fr hJ (fun a b hc => ?_)⟩
      have hc' : (a = 0 ∧ 6 ≤ b ∧ b ≤ 9) ∨ (o ≤ a ∧ a ≤ o + 5) ∨ (a = 36 ∧ (b ≤ 8 ∨ b = 27)) ∨ (40 ≤ a ∧ a ≤ 44) ∨ (3 ≤ a ∧ a ≤ 6) ∨ (53 ≤ a ∧ a ≤ 55) ∨ (28 ≤ a ∧ a ≤ 39 ∧ a ≠ 36) := hc
      rw [e2 a b (by omega) (by omega), e1 a b (by omega) (by omega) (by omega) (by omega)]
    have hD1 : ∀ M1 : jx_M, (∀ a b, a ≠ 9 → a ≠ 10 → a ≠ 11 → a ≠ 12 → M1 a b = M a b) → tp_D M1 s := fun M1 e1 => tp_D_fr hD (fun b q1 q2 => e1 _ _ (by decide) (by decide) (by decide) (by decide)) (fun a b q1 q2 => e1 _ _ (by omega) (by omega) (by omega) (by omega))
    have hms : ∀ (M1 : jx_M) (q : Int32 → jx_M → Prop), tp_D M1 s → (∀ M2 : jx_M, (∀ a b, a ≠ 50 → a ≠ 51 → M2 a b = M1 a b) → (∀ j, j < s 0 1 → M2 51 j = (if s 5 j = p then nI (G.2 j) else -9)) → q (nI G.1) M2) → jx_I (d + 19) mX8_findEase [.ref 36, .int (nI p)] M1 q := by
      intro M1 q hD1 kk
      refine tq_findEase (d := d + 16) hr hD1 hp b0 (fun M2 e1 e2 => ?_)
      rw [hG, hen]
      rw [hG] at e2
      exact kk M2 e1 (fun j hj => e2 (by omega) j hj)
    have hcs : ∀ qv : jx_M → Prop, (∀ M1 : jx_M, (∀ a b, a ≠ 9 → a ≠ 10 → a ≠ 11 → a ≠ 12 → M1 a b = M a b) → M1 9 1 = nI G.1 → (∀ j, j < s 0 1 → s 5 j = p → M1 10 j = nI (G.2 j)) → qv M1) → jx_V (d + 19) mX0_findLeast [.ref 9, .ref o, .int (nI p)] M qv := by
      intro qv kk
      refine tp_findLeast (d := d + 8) ho hr hC hp b0 b0 (fun M1 e1 e2 => ?_)
      rw [hF] at e2
      exact kk M1 e1 (by rw [← hbq.1]; exact e2.1) (fun j hj h5 => by rw [← hbq.2 j hj h5]; exact e2.2.2.2.2.2.1 (by rw [hbq.1]; omega) j hj h5)
    by_cases hb1 : b = -1
    · subst hb1
      have hx : ∀ q : Int32 → jx_M → Prop, (∀ M1 : jx_M, (∀ a b, a ≠ 9 → a ≠ 10 → a ≠ 11 → a ≠ 12 → M1 a b = M a b) → q (nI G.1) M1) → jx_I (d + 20) mX7_ease [.ref 0, .int (nI p), .int (-1)] M q := by
        intro q hq
        simp (disch := first | assumption | omega | decide) only [kX7_ease, ↓eX7_ease, ↓g1, e6, jn_L, jn_lt, jo_ltT, jo_ltF, jx_qI_a, jn_LL, if_true, if_false]
        refine hcs _ (fun M1 e1 e2 e3 => ?_)
        have hqq := hq M1 e1
        simp (disch := first | assumption | omega | decide) only [jx_qI_a, jx_qV_a, jx_qL_a, jn_lt, jn_le, jn_eq, jn_L, jn_A, jn_N, jn_LL, jn_add, jn_mul, jn_sub, jn_cl, jn_vin, jn_shl1, jn_shr, jn_or, jn_l_or0, jn_and1, jo_ltT, jo_ltF, jo_leT, jo_leF, jo_eqT, jo_eqF, true_or, or_true, true_and, and_true, false_or, or_false, false_and, and_false, if_true, if_false, not_true_eq_false, not_false_eq_true, jx_tab, eX7_ease, e2, hqq]
      have hm : ∀ (M1 : jx_M) (q : Int32 → jx_M → Prop), tp_D M1 s → (∀ M2 : jx_M, (∀ a b, a ≠ 50 → a ≠ 51 → M2 a b = M1 a b) → q (nI G.1) M2) → jx_I (d + 20) mX8_ease [.ref 36, .int (nI p), .int (-1)] M1 q := by
        intro M1 q hD1 hq
        have g2 := fun d q => g2 M1 d q hD1
        simp (disch := first | assumption | omega | decide) only [kX8_ease, ↓eX8_ease, ↓g2, ↓tq_within, jn_L, jo_ltT, jo_ltF, jo_eqT, jo_eqF, jx_qI_a, jn_LL, if_true, if_false]
        refine hms M1 _ hD1 (fun M2 e1 e2 => ?_)
        have hqq := hq M2 e1
        simp (disch := first | assumption | omega | decide) only [jx_qI_a, jx_qV_a, jx_qL_a, jn_lt, jn_le, jn_eq, jn_L, jn_A, jn_N, jn_LL, jn_add, jn_mul, jn_sub, jn_cl, jn_vin, jn_shl1, jn_shr, jn_or, jn_l_or0, jn_and1, jo_ltT, jo_ltF, jo_leT, jo_leF, jo_eqT, jo_eqF, true_or, or_true, true_and, and_true, false_or, or_false, false_and, and_false, if_true, if_false, not_true_eq_false, not_false_eq_true, jx_tab, eX8_ease, hqq]
      exact hx _ (fun M1 e1 => hm M1 _ (hD1 M1 e1) (fun M2 e2 => ⟨rfl, fin M1 M2 e1 e2⟩))
    · have hm2 : ∀ q : Int32 → jx_M → Prop, b < -1 ∨ 5 < b → q (-2) M → jx_I (d + 20) mX8_ease [.ref 36, .int (nI p), .int b] M q := by
        intro q hb hq
        have g2 := fun d q => g2 M d q hD
        have ew : (if b < -1 then (0 : Int32) else if 5 < b then 0 else 1) = 0 := by
          by_cases h1 : b < -1
          · rw [if_pos h1]
          · rw [if_neg h1, if_pos (hb.resolve_left h1)]
        simp (disch := first | assumption | omega | decide) only [kX8_ease, ↓eX8_ease, ↓g2, ↓tq_within, ew, jo_eqT, jo_eqF, jx_qI_a, jn_LL, if_true, if_false, hq]
      have hx2 : ∀ q : Int32 → jx_M → Prop, b < -1 ∨ 6 ≤ b → q (-2) M → jx_I (d + 20) mX7_ease [.ref 0, .int (nI p), .int b] M q := by
        intro q hb hq
        by_cases h1 : b < -1
        · simp (disch := first | assumption | omega | decide) only [kX7_ease, ↓eX7_ease, ↓g1, e6, h1, jx_qI_a, jn_LL, if_true, if_false, hq]
        · have h2 : ¬ b < 6 := fun z => by
            have := hb.resolve_left h1
            rw [fa_le] at this
            rw [fa_lt] at z
            omega
          simp (disch := first | assumption | omega | decide) only [kX7_ease, ↓eX7_ease, ↓g1, e6, h1, h2, jx_qI_a, jn_LL, if_true, if_false, hq]
      rcases jx_ix b (n := 6) (by decide) with (hb | hb) | ⟨k, hk, rfl⟩
      · have hb' : b < -1 := by
          have u1 : ¬ b.toInt = (-1 : Int32).toInt := fun z => hb1 (Int32.toInt.inj z)
          rw [fa_lt] at hb ⊢
          have u2 : (-1 : Int32).toInt = -1 := by decide
          have u3 : (0 : Int32).toInt = 0 := by decide
          omega
        exact hx2 _ (Or.inl hb') (hm2 _ (Or.inl hb') ⟨rfl, hI⟩)
      · have hb' : (6 : Int32) ≤ b := hb
        have hb5 : (5 : Int32) < b := by
          rw [fa_le] at hb'
          rw [fa_lt]
          have u2 : (5 : Int32).toInt = 5 := by decide
          have u3 : (6 : Int32).toInt = 6 := by decide
          omega
        exact hx2 _ (Or.inr hb') (hm2 _ (Or.inr hb5) ⟨rfl, hI⟩)
      · have n5 : (5 : Int32) = nI 5 := fa_lit 5
        have n6 : (6 : Int32) = nI 6 := fa_lit 6
        have f1 : ¬ nI k < -1 := fun z => by
          rw [fa_lt] at z
          have u2 : (-1 : Int32).toInt = -1 := by decide
          rw [u2, nI_toInt (by omega)] at z
          omega
        have f2 : nI k < 6 := by rw [n6]; exact (jn_lt (by omega) (by omega)).mpr hk
        have f3 : ¬ 5 < nI k := fun z => by
          rw [n5] at z
          have := (jn_lt (by omega) (by omega)).mp z
          omega
        have f4 : ¬ nI k < 0 := nI_pos (by omega)
        have ew : (if nI k < -1 then (0 : Int32) else if 5 < nI k then 0 else 1) = 1 := by rw [if_neg f1, if_neg f3]
        have hm : ∀ (M1 : jx_M) (q : Int32 → jx_M → Prop), tp_D M1 s → (∀ M2 : jx_M, (∀ a b, a ≠ 50 → a ≠ 51 → M2 a b = M1 a b) → q (if k < s 0 1 ∧ s 5 k = p then nI (G.2 k) else -9) M2) → jx_I (d + 20) mX8_ease [.ref 36, .int (nI p), .int (nI k)] M1 q := by
          intro M1 q hD1 hq
          have g2 := fun d q => g2 M1 d q hD1
          simp (disch := first | assumption | omega | decide) only [kX8_ease, ↓eX8_ease, ↓g2, ↓tq_within, f1, f3, jn_L, jo_ltT, jo_ltF, jo_eqT, jo_eqF, jx_qI_a, jn_LL, if_true, if_false]
          refine hms M1 _ hD1 (fun M2 e1 e2 => ?_)
          have hqq := hq M2 e1
          have c6 : M2 36 6 = nI (s 0 1) := by rw [e1 _ _ (by decide) (by decide)]; exact hD1.2.1
          by_cases hkC : k < s 0 1
          · have e51 := e2 k hkC
            by_cases h5 : s 5 k = p
            · rw [if_pos ⟨hkC, h5⟩] at hqq
              rw [if_pos h5] at e51
              simp (disch := first | assumption | omega | decide) only [jx_qI_a, jx_qV_a, jx_qL_a, jn_lt, jn_le, jn_eq, jn_L, jn_A, jn_N, jn_LL, jn_add, jn_mul, jn_sub, jn_cl, jn_vin, jn_shl1, jn_shr, jn_or, jn_l_or0, jn_and1, jo_ltT, jo_ltF, jo_leT, jo_leF, jo_eqT, jo_eqF, true_or, or_true, true_and, and_true, false_or, or_false, false_and, and_false, if_true, if_false, not_true_eq_false, not_false_eq_true, jx_tab, eX8_ease, c6, e51, hqq]
            · rw [if_neg (fun z => h5 z.2)] at hqq
              rw [if_neg h5] at e51
              simp (disch := first | assumption | omega | decide) only [jx_qI_a, jx_qV_a, jx_qL_a, jn_lt, jn_le, jn_eq, jn_L, jn_A, jn_N, jn_LL, jn_add, jn_mul, jn_sub, jn_cl, jn_vin, jn_shl1, jn_shr, jn_or, jn_l_or0, jn_and1, jo_ltT, jo_ltF, jo_leT, jo_leF, jo_eqT, jo_eqF, true_or, or_true, true_and, and_true, false_or, or_false, false_and, and_false, if_true, if_false, not_true_eq_false, not_false_eq_true, jx_tab, eX8_ease, c6, e51, hqq]
          · rw [if_neg (fun z => hkC z.1)] at hqq
            simp (disch := first | assumption | omega | decide) only [jx_qI_a, jx_qV_a, jx_qL_a, jn_lt, jn_le, jn_eq, jn_L, jn_A, jn_N, jn_LL, jn_add, jn_mul, jn_sub, jn_cl, jn_vin, jn_shl1, jn_shr, jn_or, jn_l_or0, jn_and1, jo_ltT, jo_ltF, jo_leT, jo_leF, jo_eqT, jo_eqF, true_or, or_true, true_and, and_true, false_or, or_false, false_and, and_false, if_true, if_false, not_true_eq_false, not_false_eq_true, jx_tab, eX8_ease, c6, hqq]
        by_cases hkC : k < s 0 1
        · have g3 := fun d q => tp_isFor_y (d := d) (q := q) ho hr hC hkC (show p < 100 by omega)
          by_cases h5 : s 5 k = p
          · rw [if_pos h5] at g3
            rw [if_pos ⟨hkC, h5⟩] at hm
            have hx : ∀ q : Int32 → jx_M → Prop, (∀ M1 : jx_M, (∀ a b, a ≠ 9 → a ≠ 10 → a ≠ 11 → a ≠ 12 → M1 a b = M a b) → q (nI (G.2 k)) M1) → jx_I (d + 20) mX7_ease [.ref 0, .int (nI p), .int (nI k)] M q := by
              intro q hq
              simp (disch := first | assumption | omega | decide) only [kX7_ease, ↓eX7_ease, ↓g1, ↓g3, e6, f1, f2, f4, jx_qI_a, jn_LL, if_true, if_false]
              refine hcs _ (fun M1 e1 e2 e3 => ?_)
              have hqq := hq M1 e1
              have e10 := e3 k hkC h5
              simp (disch := first | assumption | omega | decide) only [jx_qI_a, jx_qV_a, jx_qL_a, jn_lt, jn_le, jn_eq, jn_L, jn_A, jn_N, jn_LL, jn_add, jn_mul, jn_sub, jn_cl, jn_vin, jn_shl1, jn_shr, jn_or, jn_l_or0, jn_and1, jo_ltT, jo_ltF, jo_leT, jo_leF, jo_eqT, jo_eqF, true_or, or_true, true_and, and_true, false_or, or_false, false_and, and_false, if_true, if_false, not_true_eq_false, not_false_eq_true, jx_tab, eX7_ease, e10, hqq]
            exact hx _ (fun M1 e1 => hm M1 _ (hD1 M1 e1) (fun M2 e2 => ⟨rfl, fin M1 M2 e1 e2⟩))
          · rw [if_neg h5] at g3
            rw [if_neg (fun z => h5 z.2)] at hm
            have hx : ∀ q : Int32 → jx_M → Prop, q (-9) M → jx_I (d + 20) mX7_ease [.ref 0, .int (nI p), .int (nI k)] M q := by
              intro q hq
              simp (disch := first | assumption | omega | decide) only [kX7_ease, ↓eX7_ease, ↓g1, ↓g3, e6, f1, f2, f4, jx_qI_a, jn_LL, if_true, if_false, hq]
            exact hx _ (hm M _ hD (fun M2 e2 => ⟨rfl, fin M M2 (fun _ _ _ _ _ _ => rfl) e2⟩))
        · have g3 := fun d q y => tp_isFor_n (d := d) (q := q) (x := nI k) (y := y) ho hr hC (Or.inr ((jn_le (by omega) (by omega)).mpr (by omega)))
          rw [if_neg (fun z => hkC z.1)] at hm
          have hx : ∀ q : Int32 → jx_M → Prop, q (-9) M → jx_I (d + 20) mX7_ease [.ref 0, .int (nI p), .int (nI k)] M q := by
            intro q hq
            simp (disch := first | assumption | omega | decide) only [kX7_ease, ↓eX7_ease, ↓g1, ↓g3, e6, f1, f2, f4, jx_qI_a, jn_LL, if_true, if_false, hq]
          exact hx _ (hm M _ hD (fun M2 e2 => ⟨rfl, fin M M2 (fun _ _ _ _ _ _ => rfl) e2⟩))
end TE4
