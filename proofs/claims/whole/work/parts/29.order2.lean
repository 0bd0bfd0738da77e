section TPR2
variable {d : Nat} {s : tp_S}
theorem tq_find (hr : tp_rg s) {m : Nat} (hm : m ≤ 9) {Q : jx_Po} : ∀ r k st prev (M : jx_M), k + (r + 1) = s 0 1 → tp_D M s → tp_pre s M k st prev → M 52 k = -9 → tp_kS 52 k (tp_sr s m (r + 1) prev st) M (fun N => jx_Ev (d + 3) mX8_findOrder 10 [some (.ref 36), some (.int (nI m)), some (.int (nI (s 0 1)))] [] N Q) → tp_kN 52 k (tp_sr s m (r + 1) prev st) M (fun N => jx_Ev (d + 3) mX8_findOrder 10 [some (.ref 36), some (.int (nI m)), some (.int (jm k))] [] N Q) → jx_Ev (d + 3) mX8_findOrder 10 [some (.ref 36), some (.int (nI m)), some (.int (nI k))] [] M Q
  | 0, k, st, prev, M, h, hD, hpre, hcur, kS, kN => by
    refine tq_find_l hr hm h (prev := prev) (fun c M1 hc hD1 hp1 _ k1 k0 => ?_) (s 0 1) 0 M (Nat.zero_add _) hD hpre (Or.inl ⟨rfl, hcur⟩) kS kN
    have := k1 [] M1 rfl (fun _ _ _ => rfl) (fun _ _ => rfl) (fun j v hv => by simp at hv)
    rw [show k + 1 = s 0 1 by omega]
    exact this
  | r + 1, k, st, prev, M, h, hD, hpre, hcur, kS, kN => by
    refine tq_find_l hr hm h (prev := prev) (fun c M1 hc hD1 hp1 hc1 k1 k0 => ?_) (s 0 1) 0 M (Nat.zero_add _) hD hpre (Or.inl ⟨rfl, hcur⟩) kS kN
    exact tq_find hr hm r (k + 1) (st ||| 2 ^ c) (some c) M1 (by omega) hD1 hp1 (hc1 (by omega)) k1 k0
theorem tq_findOrder (hr : tp_rg s) {M : jx_M} (hD : tp_D M s) {m : Nat} (hm : m ≤ 9) (hC : 0 < s 0 1) {q : Int32 → jx_M → Prop} (kS : tp_kS 52 0 (tp_sr s m (s 0 1) none 0) M (q 1)) (kN : tp_kN 52 0 (tp_sr s m (s 0 1) none 0) M (q 0)) : jx_I (d + 3) mX8_findOrder [.ref 36, .int (nI m)] M q := by
  have r2 := hr.2.1
  obtain ⟨r, er⟩ : ∃ r, s 0 1 = r + 1 := ⟨s 0 1 - 1, by omega⟩
  have hD1 : tp_D (jx_up M 52 0 (-9)) s := tp_D_fr hD (fun b q1 q2 => by rw [jx_upE, if_neg (by omega)]) (fun a b q1 q2 => by rw [jx_upE, if_neg (by omega)])
  have hag : ∀ a b, a ≠ 52 → jx_up M 52 0 (-9) a b = M a b := fun a b z => by rw [jx_upE, if_neg (by omega)]
  have g := tq_find (d := d) hr hm (Q := jx_qI q) r 0 0 none (jx_up M 52 0 (-9)) (by omega) hD1 ⟨fun j hj => by omega, Or.inl ⟨rfl, rfl⟩, fun x hx => by
      rw [Nat.zero_div]
      constructor
      · intro z; exact absurd z (by decide)
      · rintro ⟨j, hj, -⟩; omega, by decide⟩ (by simp [jx_upE]) (fun l M' e1 e2 e3 e4 => by
      rw [← er] at e1
      have hq := kS l M' e1 (fun a b z => by rw [e2 a b z, hag a b z]) (fun j hj => by omega) e4
      have e6 : M' 36 6 = nI (s 0 1) := by rw [e2 _ _ (by decide)]; exact hD1.2.1
      show jx_Ev (d + 3) mX8_findOrder 10 [some (.ref 36), some (.int (nI m)), some (.int (nI (s 0 1)))] [] M' (jx_qI q)
      rw [eX8_findOrder_10]
      simp (disch := first | assumption | omega | decide) only [jx_qI_a, jx_qV_a, jx_qL_a, jn_lt, jn_le, jn_eq, jn_L, jn_A, jn_N, jn_LL, jn_add, jn_mul, jn_sub, jn_cl, jn_vin, jn_shl1, jn_shr, jn_or, jn_l_or0, jn_and1, jo_ltT, jo_ltF, jo_leT, jo_leF, jo_eqT, jo_eqF, true_or, or_true, true_and, and_true, false_or, or_false, false_and, and_false, if_true, if_false, not_true_eq_false, not_false_eq_true, jx_tab, eX8_findOrder, e6, hq]) (fun M' e1 e2 e3 => by
      rw [← er] at e1
      have hq := kN M' e1 (fun a b z => by rw [e2 a b z, hag a b z]) (fun j hj => by omega)
      have e6 : M' 36 6 = nI (s 0 1) := by rw [e2 _ _ (by decide)]; exact hD1.2.1
      show jx_Ev (d + 3) mX8_findOrder 10 [some (.ref 36), some (.int (nI m)), some (.int (-1))] [] M' (jx_qI q)
      have en : (-1 : Int32) = nI (s 0 1) ↔ False := by
        constructor
        · intro z
          have := (jn_N.1 (s 0 1) (by omega)).mp z.symm
          exact this
        · exact False.elim
      rw [eX8_findOrder_10]
      simp (disch := first | assumption | omega | decide) only [jx_qI_a, jx_qV_a, jx_qL_a, jn_lt, jn_le, jn_eq, jn_L, jn_A, jn_N, jn_LL, jn_add, jn_mul, jn_sub, jn_cl, jn_vin, jn_shl1, jn_shr, jn_or, jn_l_or0, jn_and1, jo_ltT, jo_ltF, jo_leT, jo_leF, jo_eqT, jo_eqF, true_or, or_true, true_and, and_true, false_or, or_false, false_and, and_false, if_true, if_false, not_true_eq_false, not_false_eq_true, jx_tab, eX8_findOrder, e6, en, hq])
  have n0 : nI 0 = (0 : Int32) := (fa_lit 0).symm
  rw [n0] at g
  simp (disch := first | assumption | omega | decide) only [jx_qI_a, jx_qV_a, jx_qL_a, jn_lt, jn_le, jn_eq, jn_L, jn_A, jn_N, jn_LL, jn_add, jn_mul, jn_sub, jn_cl, jn_vin, jn_shl1, jn_shr, jn_or, jn_l_or0, jn_and1, jo_ltT, jo_ltF, jo_leT, jo_leF, jo_eqT, jo_eqF, true_or, or_true, true_and, and_true, false_or, or_false, false_and, and_false, if_true, if_false, not_true_eq_false, not_false_eq_true, jx_tab, kX8_findOrder, eX8_findOrder]
  exact g
end TPR2
section TPR3
variable {d : Nat} {M : jx_M}
theorem op_order (h : tp_I M) (a b : Int32) : jx_I (d + 20) mX7_order [.ref 0, .int a, .int b] M (fun r M1 => jx_I (d + 20) mX8_order [.ref 36, .int a, .int b] M1 (fun r2 M2 => r = r2 ∧ tp_I M2)) := by
  have hI := h
  obtain ⟨s, o, hJ⟩ := h
  obtain ⟨ho, h06, h07, hr, hC, hD, hf, ht, hrd, hsh⟩ := id hJ
  have hoo : o = 16 ∨ o = 22 := ho
  have e6 : jx_rv (M 0 6) = .ref o := by rw [h06]; exact tp_rvn (by omega)
  obtain ⟨o0, o1, o2, o3, o4, o5, z1, z2, z3, z4, z5⟩ := tp_Ot ho
  have r2 := hr.2.1
  rcases jx_ix a (n := 10) (by omega) with hn | ⟨m, hm10, rfl⟩
  · have g5 := fun M d q => tp_isMonth_n (d := d) (q := q) (M := M) hn
    have g6 := fun M d q => tq_isMonths_n (d := d) (q := q) (M := M) hn
    have hx : ∀ q : Int32 → jx_M → Prop, q (-2) M → jx_I (d + 20) mX7_order [.ref 0, .int a, .int b] M q := by
      intro q hq
      simp (disch := first | assumption | omega | decide) only [kX7_order, ↓eX7_order, ↓g5, jx_qI_a, jn_LL, if_true, if_false, hq]
    have hm : ∀ q : Int32 → jx_M → Prop, q (-2) M → jx_I (d + 20) mX8_order [.ref 36, .int a, .int b] M q := by
      intro q hq
      simp (disch := first | assumption | omega | decide) only [kX8_order, ↓eX8_order, ↓g6, jx_qI_a, jn_LL, if_true, if_false, hq]
    exact hx _ (hm _ ⟨rfl, hI⟩)
  · have g5 := fun M d q => tp_isMonth_y (d := d) (q := q) (M := M) hm10
    have g6 := fun M d q => tq_isMonths_y (d := d) (q := q) (M := M) hm10
    rcases jx_ix b (n := 6) (by omega) with hn | ⟨k, hk, rfl⟩
    · have hx : ∀ q : Int32 → jx_M → Prop, q (-2) M → jx_I (d + 20) mX7_order [.ref 0, .int (nI m), .int b] M q := by
        intro q hq
        by_cases hb : b < 0
        · simp (disch := first | assumption | omega | decide) only [kX7_order, ↓eX7_order, ↓g5, hb, jx_qI_a, jn_LL, if_true, if_false, hq]
        · have hb2 : (6 : Int32) ≤ b := hn.resolve_left hb
          have hb3 : ¬ b < 6 := by rw [fa_le] at hb2; rw [fa_lt]; omega
          simp (disch := first | assumption | omega | decide) only [kX7_order, ↓eX7_order, ↓g5, hb, hb3, jx_qI_a, jn_LL, if_true, if_false, hq]
      have hm : ∀ q : Int32 → jx_M → Prop, q (-2) M → jx_I (d + 20) mX8_order [.ref 36, .int (nI m), .int b] M q := by
        intro q hq
        have e : (5 : Int32) < b ↔ nI 6 ≤ b := (jn_ge (n := 5) (by decide)).symm
        by_cases hb : b < 0
        · simp (disch := first | assumption | omega | decide) only [kX8_order, ↓eX8_order, ↓g6, ↓tq_within, hb, jx_qI_a, jn_LL, if_true, if_false, hq]
        · have hb2 := hn.resolve_left hb
          simp (disch := first | assumption | omega | decide) only [kX8_order, ↓eX8_order, ↓g6, ↓tq_within, hb, e, hb2, jx_qI_a, jn_LL, if_true, if_false, hq]
      exact hx _ (hm _ ⟨rfl, hI⟩)
    · have gs := fun d q => tp_stands (d := d) (q := q) ho hr hC
      by_cases hs0 : 0 < s 0 1
      · rw [if_pos hs0] at gs
        -- the reference, in any memory that keeps its office
        have hm : ∀ (M1 : jx_M), (∀ a b, 36 ≤ a → M1 a b = M a b) → ∀ q : Int32 → jx_M → Prop, (∀ l M2, tp_sr s m (s 0 1) none 0 = some l → (∀ a b, a ≠ 52 → M2 a b = M1 a b) → ∀ v, (if k < s 0 1 then l[k]? = some v else True) → q (if k < s 0 1 then nI v else -9) M2) → (∀ M2, tp_sr s m (s 0 1) none 0 = none → (∀ a b, a ≠ 52 → M2 a b = M1 a b) → q (-9) M2) → jx_I (d + 20) mX8_order [.ref 36, .int (nI m), .int (nI k)] M1 q := by
          intro M1 e1 q hq1 hq0
          have hD1 : tp_D M1 s := tp_D_fr hD (fun b q1 q2 => e1 _ _ (by omega)) (fun a b q1 q2 => e1 _ _ (by omega))
          simp (disch := first | assumption | omega | decide) only [kX8_order, ↓eX8_order, ↓g6, ↓tq_within, hD1.2.1, jn_L, jo_ltT, jo_ltF, jo_eqF, jx_qI_a, jn_LL, if_true, if_false]
          refine tq_findOrder (d := d + 16) hr hD1 (show m ≤ 9 by omega) hs0 (fun l M2 f1 f2 f3 f4 => ?_) (fun M2 f1 f2 f3 => ?_)
          · have hlen := tp_sr_len _ _ _ _ f1
            have c6 : M2 36 6 = nI (s 0 1) := by rw [f2 _ _ (by decide)]; exact hD1.2.1
            by_cases hkC : k < s 0 1
            · obtain ⟨v, hv⟩ : ∃ v, l[k]? = some v := ⟨l[k]'(by omega), List.getElem?_eq_getElem (by omega)⟩
              have hqq := hq1 l M2 f1 f2 v (by rw [if_pos hkC]; exact hv)
              rw [if_pos hkC] at hqq
              have e52 := f4 k v hv
              rw [Nat.zero_add] at e52
              simp (disch := first | assumption | omega | decide) only [jx_qI_a, jx_qV_a, jx_qL_a, jn_lt, jn_le, jn_eq, jn_L, jn_A, jn_N, jn_LL, jn_add, jn_mul, jn_sub, jn_cl, jn_vin, jn_shl1, jn_shr, jn_or, jn_l_or0, jn_and1, jo_ltT, jo_ltF, jo_leT, jo_leF, jo_eqT, jo_eqF, true_or, or_true, true_and, and_true, false_or, or_false, false_and, and_false, if_true, if_false, not_true_eq_false, not_false_eq_true, jx_tab, eX8_order, c6, e52, hqq]
            · have hqq := hq1 l M2 f1 f2 0 (by rw [if_neg hkC]; trivial)
              rw [if_neg hkC] at hqq
              simp (disch := first | assumption | omega | decide) only [jx_qI_a, jx_qV_a, jx_qL_a, jn_lt, jn_le, jn_eq, jn_L, jn_A, jn_N, jn_LL, jn_add, jn_mul, jn_sub, jn_cl, jn_vin, jn_shl1, jn_shr, jn_or, jn_l_or0, jn_and1, jo_ltT, jo_ltF, jo_leT, jo_leF, jo_eqT, jo_eqF, true_or, or_true, true_and, and_true, false_or, or_false, false_and, and_false, if_true, if_false, not_true_eq_false, not_false_eq_true, jx_tab, eX8_order, c6, hqq]
          · have hqq := hq0 M2 f1 f2
            simp (disch := first | assumption | omega | decide) only [jx_qI_a, jx_qV_a, jx_qL_a, jn_lt, jn_le, jn_eq, jn_L, jn_A, jn_N, jn_LL, jn_add, jn_mul, jn_sub, jn_cl, jn_vin, jn_shl1, jn_shr, jn_or, jn_l_or0, jn_and1, jo_ltT, jo_ltF, jo_leT, jo_leF, jo_eqT, jo_eqF, true_or, or_true, true_and, and_true, false_or, or_false, false_and, and_false, if_true, if_false, not_true_eq_false, not_false_eq_true, jx_tab, eX8_order, hqq]
        have fin : ∀ M1 M2 : jx_M, (∀ a b, a ≠ 13 → a ≠ 14 → a ≠ 15 → M1 a b = M a b) → (∀ a b, a ≠ 52 → M2 a b = M1 a b) → tp_I M2 := by
          intro M1 M2 e1 e2
          refine ⟨s, o, tp_J_fr hJ (fun a b hc => ?_)⟩
          have hc' : (a = 0 ∧ 6 ≤ b ∧ b ≤ 9) ∨ (o ≤ a ∧ a ≤ o + 5) ∨ (a = 36 ∧ (b ≤ 8 ∨ b = 27)) ∨ (40 ≤ a ∧ a ≤ 44) ∨ (3 ≤ a ∧ a ≤ 6) ∨ (53 ≤ a ∧ a ≤ 55) ∨ (28 ≤ a ∧ a ≤ 39 ∧ a ≠ 36) := hc
          have z0 : a ≠ 52 := by omega
          have z1 : a ≠ 13 := by omega
          have z2 : a ≠ 14 := by omega
          have z3 : a ≠ 15 := by omega
          rw [e2 a b z0, e1 a b z1 z2 z3]
        by_cases hkC : k < s 0 1
        · have hx : ∀ q : Int32 → jx_M → Prop, (∀ l M1, tp_sr s m (s 0 1) none 0 = some l → (∀ a b, a ≠ 13 → a ≠ 14 → a ≠ 15 → M1 a b = M a b) → ∀ v, l[k]? = some v → q (nI v) M1) → (∀ M1, tp_sr s m (s 0 1) none 0 = none → (∀ a b, a ≠ 13 → a ≠ 14 → a ≠ 15 → M1 a b = M a b) → q (-9) M1) → jx_I (d + 20) mX7_order [.ref 0, .int (nI m), .int (nI k)] M q := by
            intro q hq1 hq0
            simp (disch := first | assumption | omega | decide) only [kX7_order, ↓eX7_order, ↓g5, e6, eX7_order, ↓gs, hC.2.1, jn_L, jn_lt, jo_ltT, jo_ltF, jx_qI_a, jn_LL, if_true, if_false]
            refine tp_measure (d := d + 17) ho hr hC (show m ≤ 9 by omega) (fun Ma ea hF => ?_)
            simp (disch := first | assumption | omega | decide) only [eX7_order, kX5_fillInOrder, eX5_fillInOrder]
            have n0 : (0 : Int32) = nI 0 := fa_lit 0
            rw [n0]
            obtain ⟨dd, hdd⟩ : ∃ dd, d + 18 = dd + s 0 1 + 2 := ⟨d + 16 - s 0 1, by omega⟩
            show jx_I (d + 18) _ _ _ _
            rw [hdd]
            refine tp_fill (d := dd) hr (show m ≤ 9 by omega) (s 0 1) 0 0 none Ma _ (Nat.zero_add _) (by decide) hF (Or.inl ⟨rfl, rfl⟩) (fun l M1 f1 f2 f3 f4 => ?_) (fun M1 f1 f2 f3 => ?_)
            · have hlen := tp_sr_len _ _ _ _ f1
              obtain ⟨v, hv⟩ : ∃ v, l[k]? = some v := ⟨l[k]'(by omega), List.getElem?_eq_getElem (by omega)⟩
              have hqq := hq1 l M1 f1 (fun a b z1 z2 z3 => by rw [f2 a b z2, ea a b z1 z3]) v hv
              have e14 := f4 k v hv
              rw [Nat.zero_add] at e14
              simp (disch := first | assumption | omega | decide) only [jx_qI_a, jx_qV_a, jx_qL_a, jn_lt, jn_le, jn_eq, jn_L, jn_A, jn_N, jn_LL, jn_add, jn_mul, jn_sub, jn_cl, jn_vin, jn_shl1, jn_shr, jn_or, jn_l_or0, jn_and1, jo_ltT, jo_ltF, jo_leT, jo_leF, jo_eqT, jo_eqF, true_or, or_true, true_and, and_true, false_or, or_false, false_and, and_false, if_true, if_false, not_true_eq_false, not_false_eq_true, jx_tab, eX7_order, e14, hqq]
            · have hqq := hq0 M1 f1 (fun a b z1 z2 z3 => by rw [f2 a b z2, ea a b z1 z3])
              simp (disch := first | assumption | omega | decide) only [jx_qI_a, jx_qV_a, jx_qL_a, jn_lt, jn_le, jn_eq, jn_L, jn_A, jn_N, jn_LL, jn_add, jn_mul, jn_sub, jn_cl, jn_vin, jn_shl1, jn_shr, jn_or, jn_l_or0, jn_and1, jo_ltT, jo_ltF, jo_leT, jo_leF, jo_eqT, jo_eqF, true_or, or_true, true_and, and_true, false_or, or_false, false_and, and_false, if_true, if_false, not_true_eq_false, not_false_eq_true, jx_tab, eX7_order, hqq]
          refine hx _ (fun l M1 f1 f2 v hv => hm M1 (fun a b z => f2 a b (by omega) (by omega) (by omega)) _ (fun l' M2 g1 g2 v' hv' => ?_) (fun M2 g1 g2 => ?_)) (fun M1 f1 f2 => hm M1 (fun a b z => f2 a b (by omega) (by omega) (by omega)) _ (fun l' M2 g1 g2 v' hv' => ?_) (fun M2 g1 g2 => ⟨rfl, fin M1 M2 f2 g2⟩))
          · rw [if_pos hkC] at hv' ⊢
            rw [f1] at g1
            cases g1
            rw [hv] at hv'
            cases hv'
            exact ⟨rfl, fin M1 M2 f2 g2⟩
          · rw [f1] at g1; cases g1
          · rw [f1] at g1; cases g1
        · have hx : ∀ q : Int32 → jx_M → Prop, q (-9) M → jx_I (d + 20) mX7_order [.ref 0, .int (nI m), .int (nI k)] M q := by
            intro q hq
            simp (disch := first | assumption | omega | decide) only [kX7_order, ↓eX7_order, ↓g5, e6, eX7_order, ↓gs, hC.2.1, jn_L, jn_lt, jo_ltT, jo_ltF, jx_qI_a, jn_LL, if_true, if_false, hq]
          refine hx _ (hm M (fun _ _ _ => rfl) _ (fun l' M2 g1 g2 v' hv' => ?_) (fun M2 g1 g2 => ⟨rfl, fin M M2 (fun _ _ _ _ _ => rfl) g2⟩))
          rw [if_neg hkC]
          exact ⟨rfl, fin M M2 (fun _ _ _ _ _ => rfl) g2⟩
      · rw [if_neg hs0] at gs
        have hx : ∀ q : Int32 → jx_M → Prop, q (-3) M → jx_I (d + 20) mX7_order [.ref 0, .int (nI m), .int (nI k)] M q := by
          intro q hq
          simp (disch := first | assumption | omega | decide) only [kX7_order, ↓eX7_order, ↓g5, e6, eX7_order, ↓gs, jn_L, jn_lt, jo_ltT, jo_ltF, jx_qI_a, jn_LL, if_true, if_false, hq]
        have hm : ∀ q : Int32 → jx_M → Prop, q (-3) M → jx_I (d + 20) mX8_order [.ref 36, .int (nI m), .int (nI k)] M q := by
          intro q hq
          simp (disch := first | assumption | omega | decide) only [kX8_order, ↓eX8_order, ↓g6, ↓tq_within, hD.2.1, jn_L, jo_ltT, jo_ltF, jo_eqT, jo_eqF, jx_qI_a, jn_LL, if_true, if_false, hq]
        exact hx _ (hm _ ⟨rfl, hI⟩)
end TPR3
