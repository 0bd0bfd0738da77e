/-! office: takeOffice -/
section TG5
variable {d : Nat}
theorem tf_take1 {P : Nat} (hP : P ≤ 5) {Q : jx_Po} : ∀ r p (M : jx_M), p + r = P → M 36 5 = nI P → (∀ j, j < p → M 40 j = M 45 j ∧ M 41 j = M 46 j) → (∀ M' : jx_M, (∀ x y, x ≠ 40 → x ≠ 41 → M' x y = M x y) → (∀ j, j < P → M' 40 j = M 45 j ∧ M' 41 j = M 46 j) → jx_Ev d mX8_takeOffice 64 [some (.ref 36), some (.int (nI P))] [] M' Q) → jx_Ev d mX8_takeOffice 26 [some (.ref 36), some (.int (nI p))] [] M Q
  | 0, p, M, h, h5, hj, k => by
    have h : p = P := h
    subst h
    have g := k M (fun _ _ _ _ => rfl) hj
    have hiff : jx_Ev d mX8_takeOffice 26 [some (.ref 36), some (.int (nI p))] [] M Q ↔ jx_Ev d mX8_takeOffice 64 [some (.ref 36), some (.int (nI p))] [] M Q := by
      rw [eX8_takeOffice_26]
      simp (disch := first | assumption | omega | decide) only [jx_qI_a, jx_qV_a, jx_qL_a, jn_lt, jn_le, jn_eq, jn_L, jn_A, jn_N, jn_LL, jn_add, jn_mul, jn_sub, jn_cl, jn_vin, jn_shl1, jn_shr, jn_or, jn_l_or0, jn_and1, jo_ltT, jo_ltF, jo_leT, jo_leF, jo_eqT, jo_eqF, true_or, or_true, true_and, and_true, false_or, or_false, false_and, and_false, if_true, if_false, not_true_eq_false, not_false_eq_true, jx_tab, eX8_takeOffice, h5]
    exact hiff.mpr g
  | r + 1, p, M, h, h5, hj, k => by
    have e1 : ∀ x, jx_up M 40 p x 46 p = M 46 p := fun x => jx_upA (by decide)
    have ih := tf_take1 hP (Q := Q) r (p + 1) (jx_up (jx_up M 40 p (M 45 p)) 41 p (M 46 p)) (by omega) (by rw [jx_upA (by decide), jx_upA (by decide)]; exact h5) (fun j hj' => by
      by_cases e : j = p
      · subst e
        constructor
        · rw [jx_upA (by decide), jx_upS, jx_upA (by decide), jx_upA (by decide)]
        · rw [jx_upS, jx_upA (by decide), jx_upA (by decide)]
      · obtain ⟨a1, a2⟩ := hj j (by omega)
        constructor
        · rw [jx_upA (by decide), jx_upB e, jx_upA (by decide), jx_upA (by decide)]; exact a1
        · rw [jx_upB e, jx_upA (by decide), jx_upA (by decide), jx_upA (by decide)]; exact a2) (fun M' f1 f2 => k M' (fun x y z1 z2 => by rw [f1 x y z1 z2, jx_upA z2, jx_upA z1]) (fun j hj' => by
        obtain ⟨a1, a2⟩ := f2 j hj'
        rw [jx_upA (by decide), jx_upA (by decide)] at a1 a2
        exact ⟨a1, a2⟩))
    rw [eX8_takeOffice_26]
    simp (disch := first | assumption | omega | decide) only [jx_qI_a, jx_qV_a, jx_qL_a, jn_lt, jn_le, jn_eq, jn_L, jn_A, jn_N, jn_LL, jn_add, jn_mul, jn_sub, jn_cl, jn_vin, jn_shl1, jn_shr, jn_or, jn_l_or0, jn_and1, jo_ltT, jo_ltF, jo_leT, jo_leF, jo_eqT, jo_eqF, true_or, or_true, true_and, and_true, false_or, or_false, false_and, and_false, if_true, if_false, not_true_eq_false, not_false_eq_true, jx_tab, eX8_takeOffice, h5, e1]
    exact ih
theorem tf_take2 {C : Nat} (hC : C ≤ 6) {Q : jx_Po} : ∀ r c (M : jx_M), c + r = C → M 36 6 = nI C → (∀ j, j < c → M 42 j = M 47 j ∧ M 43 j = M 48 j ∧ M 44 j = M 49 j) → (∀ M' : jx_M, (∀ x y, x ≠ 42 → x ≠ 43 → x ≠ 44 → M' x y = M x y) → (∀ j, j < C → M' 42 j = M 47 j ∧ M' 43 j = M 48 j ∧ M' 44 j = M 49 j) → jx_Ev d mX8_takeOffice 124 [some (.ref 36), some (.int (nI C))] [] M' Q) → jx_Ev d mX8_takeOffice 74 [some (.ref 36), some (.int (nI c))] [] M Q
  | 0, c, M, h, h5, hj, k => by
    have h : c = C := h
    subst h
    have g := k M (fun _ _ _ _ _ => rfl) hj
    have hiff : jx_Ev d mX8_takeOffice 74 [some (.ref 36), some (.int (nI c))] [] M Q ↔ jx_Ev d mX8_takeOffice 124 [some (.ref 36), some (.int (nI c))] [] M Q := by
      rw [eX8_takeOffice_74]
      simp (disch := first | assumption | omega | decide) only [jx_qI_a, jx_qV_a, jx_qL_a, jn_lt, jn_le, jn_eq, jn_L, jn_A, jn_N, jn_LL, jn_add, jn_mul, jn_sub, jn_cl, jn_vin, jn_shl1, jn_shr, jn_or, jn_l_or0, jn_and1, jo_ltT, jo_ltF, jo_leT, jo_leF, jo_eqT, jo_eqF, true_or, or_true, true_and, and_true, false_or, or_false, false_and, and_false, if_true, if_false, not_true_eq_false, not_false_eq_true, jx_tab, eX8_takeOffice, h5]
    exact hiff.mpr g
  | r + 1, c, M, h, h5, hj, k => by
    have e1 : ∀ x, jx_up M 42 c x 48 c = M 48 c := fun x => jx_upA (by decide)
    have e2 : ∀ x y, jx_up (jx_up M 42 c x) 43 c y 49 c = M 49 c := fun x y => by rw [jx_upA (by decide), jx_upA (by decide)]
    have fr : ∀ x y, x ≠ 42 → x ≠ 43 → x ≠ 44 → jx_up (jx_up (jx_up M 42 c (M 47 c)) 43 c (M 48 c)) 44 c (M 49 c) x y = M x y := fun x y z1 z2 z3 => by rw [jx_upA z3, jx_upA z2, jx_upA z1]
    have ih := tf_take2 hC (Q := Q) r (c + 1) (jx_up (jx_up (jx_up M 42 c (M 47 c)) 43 c (M 48 c)) 44 c (M 49 c)) (by omega) (by rw [fr _ _ (by decide) (by decide) (by decide)]; exact h5) (fun j hj' => by
      rw [fr 47 _ (by decide) (by decide) (by decide), fr 48 _ (by decide) (by decide) (by decide), fr 49 _ (by decide) (by decide) (by decide)]
      by_cases e : j = c
      · subst e
        refine ⟨?_, ?_, ?_⟩
        · rw [jx_upA (by decide), jx_upA (by decide), jx_upS]
        · rw [jx_upA (by decide), jx_upS]
        · rw [jx_upS]
      · obtain ⟨a1, a2, a3⟩ := hj j (by omega)
        refine ⟨?_, ?_, ?_⟩
        · rw [jx_upA (by decide), jx_upA (by decide), jx_upB e]; exact a1
        · rw [jx_upA (by decide), jx_upB e, jx_upA (by decide)]; exact a2
        · rw [jx_upB e, jx_upA (by decide), jx_upA (by decide)]; exact a3) (fun M' f1 f2 => k M' (fun x y z1 z2 z3 => by rw [f1 x y z1 z2 z3, fr x y z1 z2 z3]) (fun j hj' => by
        obtain ⟨a1, a2, a3⟩ := f2 j hj'
        rw [fr 47 _ (by decide) (by decide) (by decide)] at a1
        rw [fr 48 _ (by decide) (by decide) (by decide)] at a2
        rw [fr 49 _ (by decide) (by decide) (by decide)] at a3
        exact ⟨a1, a2, a3⟩))
    rw [eX8_takeOffice_74]
    simp (disch := first | assumption | omega | decide) only [jx_qI_a, jx_qV_a, jx_qL_a, jn_lt, jn_le, jn_eq, jn_L, jn_A, jn_N, jn_LL, jn_add, jn_mul, jn_sub, jn_cl, jn_vin, jn_shl1, jn_shr, jn_or, jn_l_or0, jn_and1, jo_ltT, jo_ltF, jo_leT, jo_leF, jo_eqT, jo_eqF, true_or, or_true, true_and, and_true, false_or, or_false, false_and, and_false, if_true, if_false, not_true_eq_false, not_false_eq_true, jx_tab, eX8_takeOffice, h5, e1, e2]
    exact ih
theorem tf_take {M : jx_M} {s : tp_S} (hr : tp_rg s) (hQ : tf_Q M s) {qv : jx_M → Prop} (k : ∀ M' : jx_M, tp_D M' s → M' 36 27 = 0 → (∀ x y, ¬ (x = 36 ∧ (5 ≤ y ∧ y ≤ 8 ∨ y = 27)) → ¬ (40 ≤ x ∧ x ≤ 44) → M' x y = M x y) → qv M') : jx_V d mX8_takeOffice [.ref 36] M qv := by
  obtain ⟨c1, c2, c3, c4, c5, c6⟩ := hQ
  have r1 := hr.1
  have r2 := hr.2.1
  have n0 : (0 : Int32) = nI 0 := fa_lit 0
  have b1 : jx_up M 36 7 (nI (s 0 2)) 36 16 = nI (s 0 3) := by rw [jx_upB (by decide)]; exact c4
  have b2 : jx_up (jx_up M 36 7 (nI (s 0 2))) 36 8 (nI (s 0 3)) 36 17 = nI (s 0 0) := by rw [jx_upB (by decide), jx_upB (by decide)]; exact c1
  have hA : ∀ x y, ¬ (x = 36 ∧ (5 ≤ y ∧ y ≤ 8)) → jx_up (jx_up (jx_up M 36 7 (nI (s 0 2))) 36 8 (nI (s 0 3))) 36 5 (nI (s 0 0)) x y = M x y := fun x y z => by
    rw [jx_upE, if_neg (by omega), jx_upE, if_neg (by omega), jx_upE, if_neg (by omega)]
  have a5 : jx_up (jx_up (jx_up M 36 7 (nI (s 0 2))) 36 8 (nI (s 0 3))) 36 5 (nI (s 0 0)) 36 5 = nI (s 0 0) := jx_upS _ _ _ _
  have a7 : jx_up (jx_up (jx_up M 36 7 (nI (s 0 2))) 36 8 (nI (s 0 3))) 36 5 (nI (s 0 0)) 36 7 = nI (s 0 2) := by rw [jx_upB (by decide), jx_upB (by decide), jx_upS]
  have a8 : jx_up (jx_up (jx_up M 36 7 (nI (s 0 2))) 36 8 (nI (s 0 3))) 36 5 (nI (s 0 0)) 36 8 = nI (s 0 3) := by rw [jx_upB (by decide), jx_upS]
  have g := tf_take1 (d := d) (P := s 0 0) r1 (Q := jx_qV qv) (s 0 0) 0 (jx_up (jx_up (jx_up M 36 7 (nI (s 0 2))) 36 8 (nI (s 0 3))) 36 5 (nI (s 0 0))) (Nat.zero_add _) a5 (fun j hj => by omega) (fun M1 f1 f2 => ?_)
  · rw [← n0] at g
    simp (disch := first | assumption | omega | decide) only [jx_qI_a, jx_qV_a, jx_qL_a, jn_lt, jn_le, jn_eq, jn_L, jn_A, jn_N, jn_LL, jn_add, jn_mul, jn_sub, jn_cl, jn_vin, jn_shl1, jn_shr, jn_or, jn_l_or0, jn_and1, jo_ltT, jo_ltF, jo_leT, jo_leF, jo_eqT, jo_eqF, true_or, or_true, true_and, and_true, false_or, or_false, false_and, and_false, if_true, if_false, not_true_eq_false, not_false_eq_true, jx_tab, kX8_takeOffice, eX8_takeOffice, c3, b1, b2]
    exact g
  · have e18 : M1 36 18 = nI (s 0 1) := by rw [f1 _ _ (by decide) (by decide), hA _ _ (by omega)]; exact c2
    have g2 := tf_take2 (d := d) (C := s 0 1) r2 (Q := jx_qV qv) (s 0 1) 0 (jx_up M1 36 6 (nI (s 0 1))) (Nat.zero_add _) (jx_upS _ _ _ _) (fun j hj => by omega) (fun M2 f3 f4 => ?_)
    · rw [← n0] at g2
      simp (disch := first | assumption | omega | decide) only [jx_qI_a, jx_qV_a, jx_qL_a, jn_lt, jn_le, jn_eq, jn_L, jn_A, jn_N, jn_LL, jn_add, jn_mul, jn_sub, jn_cl, jn_vin, jn_shl1, jn_shr, jn_or, jn_l_or0, jn_and1, jo_ltT, jo_ltF, jo_leT, jo_leF, jo_eqT, jo_eqF, true_or, or_true, true_and, and_true, false_or, or_false, false_and, and_false, if_true, if_false, not_true_eq_false, not_false_eq_true, jx_tab, eX8_takeOffice, e18]
      exact g2
    · have hq := k (jx_up M2 36 27 0) ⟨?_, ?_, ?_, ?_, fun p hp => ?_, fun c hc => ?_⟩ (jx_upS _ _ _ _) (fun x y z1 z2 => ?_)
      · simp (disch := first | assumption | omega | decide) only [jx_qI_a, jx_qV_a, jx_qL_a, jn_lt, jn_le, jn_eq, jn_L, jn_A, jn_N, jn_LL, jn_add, jn_mul, jn_sub, jn_cl, jn_vin, jn_shl1, jn_shr, jn_or, jn_l_or0, jn_and1, jo_ltT, jo_ltF, jo_leT, jo_leF, jo_eqT, jo_eqF, true_or, or_true, true_and, and_true, false_or, or_false, false_and, and_false, if_true, if_false, not_true_eq_false, not_false_eq_true, jx_tab, eX8_takeOffice, hq]
      · rw [jx_upB (by decide), f3 _ _ (by decide) (by decide) (by decide), jx_upB (by decide), f1 _ _ (by decide) (by decide)]; exact a5
      · rw [jx_upB (by decide), f3 _ _ (by decide) (by decide) (by decide), jx_upS]
      · rw [jx_upB (by decide), f3 _ _ (by decide) (by decide) (by decide), jx_upB (by decide), f1 _ _ (by decide) (by decide)]; exact a7
      · rw [jx_upB (by decide), f3 _ _ (by decide) (by decide) (by decide), jx_upB (by decide), f1 _ _ (by decide) (by decide)]; exact a8
      · obtain ⟨u1, u2⟩ := f2 p hp
        rw [hA _ _ (by omega)] at u1
        rw [hA _ _ (by omega)] at u2
        constructor
        · rw [jx_upA (by decide), f3 _ _ (by decide) (by decide) (by decide), jx_upA (by decide), u1]; exact (c5 p hp).1
        · rw [jx_upA (by decide), f3 _ _ (by decide) (by decide) (by decide), jx_upA (by decide), u2]; exact (c5 p hp).2
      · obtain ⟨u1, u2, u3⟩ := f4 c hc
        rw [jx_upA (by decide), f1 _ _ (by decide) (by decide), hA _ _ (by omega)] at u1
        rw [jx_upA (by decide), f1 _ _ (by decide) (by decide), hA _ _ (by omega)] at u2
        rw [jx_upA (by decide), f1 _ _ (by decide) (by decide), hA _ _ (by omega)] at u3
        refine ⟨?_, ?_, ?_⟩
        · rw [jx_upA (by decide), u1]; exact (c6 c hc).1
        · rw [jx_upA (by decide), u2]; exact (c6 c hc).2.1
        · rw [jx_upA (by decide), u3]; exact (c6 c hc).2.2
      · have y1 : ¬ (x = 36 ∧ y = 27) := by omega
        have y2 : ¬ (x = 36 ∧ y = 6) := by omega
        rw [jx_upE, if_neg y1, f3 _ _ (by omega) (by omega) (by omega), jx_upE, if_neg y2, f1 _ _ (by omega) (by omega), hA _ _ (by omega)]
end TG5
