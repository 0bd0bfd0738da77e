/-! shelves -/
def tp_df (a b : Nat) : Nat := if b ≤ a then a - b else b - a
theorem tp_df_c (a b : Nat) : tp_df a b = tp_df b a := by
  unfold tp_df
  split <;> split <;> omega
theorem tp_df_le {a b : Nat} (ha : a ≤ 72) (hb : b ≤ 72) : tp_df a b ≤ 72 := by
  unfold tp_df
  split <;> omega
theorem jn_abs {a b : Nat} (ha : a < 1000000) (hb : b < 1000000) : (if (0 : Int32) ≤ nI a - nI b then nI a - nI b else 0 - (nI a - nI b)) = nI (tp_df a b) := by
  have hs := pk_sub_toInt (a := a) (b := b) (by omega) (by omega)
  unfold tp_df
  by_cases h : b ≤ a
  · rw [if_pos h, if_pos]
    · exact jn_sub h
    · rw [fa_le, hs]; show (0 : Int) ≤ _; omega
  · rw [if_neg h, if_neg]
    · have e : (0 : Int32) - (nI a - nI b) = nI b - nI a := by
        rw [Int32.zero_sub, Int32.neg_sub]
      rw [e]
      exact jn_sub (by omega)
    · rw [fa_le, hs]; show ¬ (0 : Int) ≤ _; omega
/-- the shelf's own numbers -/
def tp_F (M : jx_M) (s : tp_S) (m : Nat) : Prop := M 13 2 = nI (s 0 1) ∧ M 13 3 = nI (s 0 3) ∧ ∀ c, c < s 0 1 → M 15 c = nI (tp_lo s c m)
theorem tp_F_fr {M M' : jx_M} {s : tp_S} {m : Nat} (h : tp_F M s m) (e : ∀ a b, a = 13 ∨ a = 15 → M' a b = M a b) : tp_F M' s m :=
  ⟨by rw [e _ _ (by omega)]; exact h.1, by rw [e _ _ (by omega)]; exact h.2.1, fun c hc => by rw [e _ _ (by omega)]; exact h.2.2 c hc⟩
theorem jn_A1 {a : Nat} (h : 1 ≤ a) : nI a - 1 = nI (a - 1) := jn_sub_l h
section TPF
variable {d o : Nat} {s : tp_S} {q : Int32 → jx_M → Prop} {qv : jx_M → Prop}
theorem tp_measure_l (ho : tp_O o) (hr : tp_rg s) {m : Nat} (hm : m ≤ 9) {Q : jx_Po} : ∀ r c (M : jx_M), c + r = s 0 1 → tp_C M o s → M 13 2 = nI (s 0 1) → M 13 3 = nI (s 0 3) → (∀ j, j < c → M 15 j = nI (tp_lo s j m)) → (∀ M' : jx_M, (∀ a b, a ≠ 15 → M' a b = M a b) → tp_F M' s m → Q [] M') → jx_Ev (d + 2) mX5_measure 23 [some (.ref 13), some (.ref o), some (.int (nI m)), some (.int (nI c))] [] M Q
  | 0, c, M, h, hC, h2, h3, h15, k => by
    have h : c = s 0 1 := h
    subst h
    have := k M (fun _ _ _ => rfl) ⟨h2, h3, h15⟩
    obtain ⟨r1, r2, r3, r4, r5, r6⟩ := id hr
    rw [eX5_measure_23]
    simp (disch := first | assumption | omega | decide) only [jx_qI_a, jx_qV_a, jx_qL_a, jn_lt, jn_le, jn_eq, jn_L, jn_A, jn_N, jn_LL, jn_add, jn_mul, jn_sub, jn_cl, jn_vin, jn_shl1, jn_shr, jn_or, jn_l_or0, jn_and1, jo_ltT, jo_ltF, jo_leT, jo_leF, jo_eqT, jo_eqF, true_or, or_true, true_and, and_true, false_or, or_false, false_and, and_false, if_true, if_false, not_true_eq_false, not_false_eq_true, jx_tab, eX5_measure, h2, this]
  | r + 1, c, M, h, hC, h2, h3, h15, k => by
    have hc : c < s 0 1 := by omega
    have hoo : o = 16 ∨ o = 22 := ho
    have hl := fun d q => tp_loudness (d := d) (q := q) ho hr hC hc (show m < 100 by omega)
    have ih := tp_measure_l ho hr hm (Q := Q) r (c + 1) (jx_up M 15 c (nI (tp_lo s c m))) (by omega) (tp_C_fr hC (fun a b q1 q2 => by rw [jx_upE, if_neg (by omega)])) (by rw [jx_upE, if_neg (by omega)]; exact h2) (by rw [jx_upE, if_neg (by omega)]; exact h3) (fun j hj => by
      rw [jx_upE]
      by_cases e : j = c
      · rw [if_pos ⟨rfl, e⟩, e]
      · rw [if_neg (by omega)]; exact h15 j (by omega)) (fun M' e1 e2 => k M' (fun a b z => by rw [e1 a b z, jx_upE, if_neg (by omega)]) e2)
    obtain ⟨o0, o1, o2, o3, o4, o5, z1, z2, z3, z4, z5⟩ := tp_Ot ho
    obtain ⟨r1, r2, r3, r4, r5, r6⟩ := id hr
    rw [eX5_measure_23]
    simp (disch := first | assumption | omega | decide) only [jx_qI_a, jx_qV_a, jx_qL_a, jn_lt, jn_le, jn_eq, jn_L, jn_A, jn_N, jn_LL, jn_add, jn_mul, jn_sub, jn_cl, jn_vin, jn_shl1, jn_shr, jn_or, jn_l_or0, jn_and1, jo_ltT, jo_ltF, jo_leT, jo_leF, jo_eqT, jo_eqF, true_or, or_true, true_and, and_true, false_or, or_false, false_and, and_false, if_true, if_false, not_true_eq_false, not_false_eq_true, jx_tab, eX5_measure, h2, hl, ih]
theorem tp_measure (ho : tp_O o) (hr : tp_rg s) {M : jx_M} (hC : tp_C M o s) {m : Nat} (hm : m ≤ 9) (k : ∀ M' : jx_M, (∀ a b, a ≠ 13 → a ≠ 15 → M' a b = M a b) → tp_F M' s m → qv M') : jx_V (d + 2) mX5_measure [.ref 13, .ref o, .int (nI m)] M qv := by
  have hoo : o = 16 ∨ o = 22 := ho
  have g := tp_measure_l (d := d) ho hr hm (Q := jx_qV qv) (s 0 1) 0 (jx_up (jx_up M 13 2 (nI (s 0 1))) 13 3 (nI (s 0 3))) (Nat.zero_add _) (tp_C_fr hC (fun a b q1 q2 => by simp only [jx_upE]; rw [if_neg (by omega), if_neg (by omega)])) (by simp [jx_upE]) (by simp [jx_upE]) (fun j hj => by omega) (fun M' e1 e2 => by
    rw [jx_qV_a]
    exact k M' (fun a b z1 z2 => by rw [e1 a b z2]; simp only [jx_upE]; rw [if_neg (by omega), if_neg (by omega)]) e2)
  obtain ⟨o0, o1, o2, o3, o4, o5, z1, z2, z3, z4, z5⟩ := tp_Ot ho
  obtain ⟨r1, r2, r3, r4, r5, r6⟩ := id hr
  have e8 : jx_up M 13 2 (nI (s 0 1)) o 8 = nI (s 0 3) := by rw [jx_upE, if_neg (by omega)]; exact hC.2.2.2.1
  simp (disch := first | assumption | omega | decide) only [jx_qI_a, jx_qV_a, jx_qL_a, jn_lt, jn_le, jn_eq, jn_L, jn_A, jn_N, jn_LL, jn_add, jn_mul, jn_sub, jn_cl, jn_vin, jn_shl1, jn_shr, jn_or, jn_l_or0, jn_and1, jo_ltT, jo_ltF, jo_leT, jo_leF, jo_eqT, jo_eqF, true_or, or_true, true_and, and_true, false_or, or_false, false_and, and_false, if_true, if_false, not_true_eq_false, not_false_eq_true, jx_tab, kX5_measure, eX5_measure, hC.2.1, e8]
  exact g
theorem tp_sClap_y (hr : tp_rg s) {M : jx_M} {m : Nat} (hF : tp_F M s m) {c : Nat} (hc : c < s 0 1) : jx_I d mX5_isClap [.ref 13, .int (nI c)] M q ↔ q 1 M := by
  obtain ⟨r1, r2, r3, r4, r5, r6⟩ := id hr
  simp (disch := first | assumption | omega | decide) only [jx_qI_a, jx_qV_a, jx_qL_a, jn_lt, jn_le, jn_eq, jn_L, jn_A, jn_N, jn_LL, jn_add, jn_mul, jn_sub, jn_cl, jn_vin, jn_shl1, jn_shr, jn_or, jn_l_or0, jn_and1, jo_ltT, jo_ltF, jo_leT, jo_leF, jo_eqT, jo_eqF, true_or, or_true, true_and, and_true, false_or, or_false, false_and, and_false, if_true, if_false, not_true_eq_false, not_false_eq_true, jx_tab, kX5_isClap, eX5_isClap, hF.1]
theorem tp_sClap_n (hr : tp_rg s) {M : jx_M} {m : Nat} (hF : tp_F M s m) {x : Int32} (hx : x < 0 ∨ nI (s 0 1) ≤ x) : jx_I d mX5_isClap [.ref 13, .int x] M q ↔ q 0 M := by
  by_cases h : x < 0
  · simp (disch := first | assumption | omega | decide) only [jx_qI_a, jx_qV_a, jx_qL_a, jn_LL, true_or, or_true, true_and, and_true, false_or, or_false, false_and, and_false, if_true, if_false, not_true_eq_false, not_false_eq_true, jx_tab, kX5_isClap, eX5_isClap, hF.1, h]
  · have h2 := hx.resolve_left h
    simp (disch := first | assumption | omega | decide) only [jx_qI_a, jx_qV_a, jx_qL_a, jn_LL, true_or, or_true, true_and, and_true, false_or, or_false, false_and, and_false, if_true, if_false, not_true_eq_false, not_false_eq_true, jx_tab, kX5_isClap, eX5_isClap, hF.1, h, h2]
/-- does c stand well at its place: behind prev, with st standing -/
def tp_fit (s : tp_S) (m : Nat) (prev : Option Nat) (st c : Nat) : Bool := decide (st / 2 ^ c % 2 = 0) && (match prev with
  | none => true
  | some p => decide (s 0 3 ≤ tp_df (tp_lo s c m) (tp_lo s p m)))
theorem tp_fits (hr : tp_rg s) {M : jx_M} {m : Nat} (hm : m ≤ 9) (hF : tp_F M s m) {c place st : Nat} {prev : Option Nat} (hc : c < s 0 1) (hp : place < 20) (hst : st < 1000) (hpr : (place = 0 ∧ prev = none) ∨ ∃ p, p < s 0 1 ∧ 0 < place ∧ prev = some p ∧ M 14 (place - 1) = nI p) : jx_I (d + 1) mX5_fits [.ref 13, .int (nI c), .int (nI place), .int (nI st)] M q ↔ q (if tp_fit s m prev st c = true then 1 else 0) M := by
  have g := fun d q => tp_sClap_y (d := d) (q := q) hr hF hc
  have hb1 : st / 2 ^ c < 2147483648 := Nat.lt_of_le_of_lt (Nat.div_le_self _ _) (by omega)
  have hb2 : st / 2 ^ c % 2 < 2 := Nat.mod_lt _ (by decide)
  have l1 := tp_lo_le hr hc hm
  obtain ⟨r1, r2, r3, r4, r5, r6⟩ := id hr
  by_cases h0 : st / 2 ^ c % 2 = 0
  · rcases hpr with ⟨rfl, rfl⟩ | ⟨p, hp1, hp2, rfl, hp3⟩
    · have e : tp_fit s m none st c = true := by simp [tp_fit, h0]
      rw [e, if_pos rfl]
      simp (disch := first | assumption | omega | decide) only [jx_qI_a, jx_qV_a, jx_qL_a, jn_lt, jn_le, jn_eq, jn_L, jn_A, jn_N, jn_LL, jn_add, jn_mul, jn_sub, jn_cl, jn_vin, jn_shl1, jn_shr, jn_or, jn_l_or0, jn_and1, jo_ltT, jo_ltF, jo_leT, jo_leF, jo_eqT, jo_eqF, true_or, or_true, true_and, and_true, false_or, or_false, false_and, and_false, if_true, if_false, not_true_eq_false, not_false_eq_true, jx_tab, kX5_fits, eX5_fits, g]
    · have g2 := fun d q => tp_sClap_y (d := d) (q := q) hr hF hp1
      have l2 := tp_lo_le hr hp1 hm
      have ea := jn_abs (a := tp_lo s c m) (b := tp_lo s p m) (by omega) (by omega)
      have ld := tp_df_le l1 l2
      have k1 := hF.2.2 c hc
      have k2 := hF.2.2 p hp1
      by_cases hg : s 0 3 ≤ tp_df (tp_lo s c m) (tp_lo s p m)
      · have e : tp_fit s m (some p) st c = true := by simp [tp_fit, h0, hg]
        rw [e, if_pos rfl]
        simp (disch := first | assumption | omega | decide) only [kX5_fits, eX5_fits, g, g2, hp3, k1, k2, hF.2.1, ea, jx_qI_a, jn_lt, jn_le, jn_L, jn_shr, jn_and1, jn_vin, jn_cl, jn_A1, jn_LL, jx_tab, jo_ltT, jo_ltF, jo_leT, jo_leF, jo_eqT, jo_eqF, true_or, or_true, true_and, and_true, if_true, if_false]
      · have e : tp_fit s m (some p) st c = false := by simp [tp_fit, h0, hg]
        rw [e, if_neg (by decide)]
        simp (disch := first | assumption | omega | decide) only [kX5_fits, eX5_fits, g, g2, hp3, k1, k2, hF.2.1, ea, jx_qI_a, jn_lt, jn_le, jn_L, jn_shr, jn_and1, jn_vin, jn_cl, jn_A1, jn_LL, jx_tab, jo_ltT, jo_ltF, jo_leT, jo_leF, jo_eqT, jo_eqF, true_or, or_true, true_and, and_true, if_true, if_false]
  · have e : tp_fit s m prev st c = false := by simp [tp_fit, h0]
    rw [e, if_neg (by decide)]
    simp (disch := first | assumption | omega | decide) only [jx_qI_a, jx_qV_a, jx_qL_a, jn_lt, jn_le, jn_eq, jn_L, jn_A, jn_N, jn_LL, jn_add, jn_mul, jn_sub, jn_cl, jn_vin, jn_shl1, jn_shr, jn_or, jn_l_or0, jn_and1, jo_ltT, jo_ltF, jo_leT, jo_leF, jo_eqT, jo_eqF, true_or, or_true, true_and, and_true, false_or, or_false, false_and, and_false, if_true, if_false, not_true_eq_false, not_false_eq_true, jx_tab, kX5_fits, eX5_fits, g]
theorem tq_isApart (hr : tp_rg s) {M : jx_M} (hD : tp_D M s) {a b m : Nat} (ha : a < s 0 1) (hb : b < s 0 1) (hm : m ≤ 9) : jx_I (d + 1) mX8_isApart [.ref 36, .int (nI a), .int (nI b), .int (nI m)] M q ↔ q (if s 0 3 ≤ tp_df (tp_lo s a m) (tp_lo s b m) then 1 else 0) M := by
  have g1 := fun d q => tq_loudOf (d := d) (q := q) hr hD ha (show m < 100 by omega)
  have g2 := fun d q => tq_loudOf (d := d) (q := q) hr hD hb (show m < 100 by omega)
  have l1 := tp_lo_le hr ha hm
  have l2 := tp_lo_le hr hb hm
  have hs := pk_sub_toInt (a := tp_lo s a m) (b := tp_lo s b m) (by omega) (by omega)
  have hg := hr.2.2.2.1
  have hneg : (-(nI (tp_lo s a m) - nI (tp_lo s b m))).toInt = (tp_lo s b m : Int) - tp_lo s a m := by
    have e : -(nI (tp_lo s a m) - nI (tp_lo s b m)) = nI (tp_lo s b m) - nI (tp_lo s a m) := Int32.neg_sub
    rw [e]
    exact pk_sub_toInt (by omega) (by omega)
  have c4 := hD.2.2.2.1
  have q1 : nI (s 0 3) ≤ nI (tp_lo s a m) - nI (tp_lo s b m) ↔ s 0 3 + tp_lo s b m ≤ tp_lo s a m := by
    rw [fa_le, hs, nI_toInt (by omega)]; omega
  have q2 : -(nI (tp_lo s a m) - nI (tp_lo s b m)) < nI (s 0 3) ↔ tp_lo s b m < s 0 3 + tp_lo s a m := by
    rw [fa_lt, hneg, nI_toInt (by omega)]; omega
  unfold tp_df
  by_cases h1 : s 0 3 + tp_lo s b m ≤ tp_lo s a m
  · rw [if_pos (show s 0 3 ≤ _ by split <;> omega)]
    simp (disch := first | assumption | omega | decide) only [kX8_isApart, eX8_isApart, g1, g2, c4, q1, h1, jx_qI_a, jn_LL, true_or, or_true, true_and, if_true, if_false]
  · by_cases h2 : tp_lo s b m < s 0 3 + tp_lo s a m
    · rw [if_neg (show ¬ s 0 3 ≤ _ by split <;> omega)]
      simp (disch := first | assumption | omega | decide) only [kX8_isApart, eX8_isApart, g1, g2, c4, q1, q2, h1, h2, jx_qI_a, jn_LL, true_or, or_true, true_and, if_true, if_false]
    · rw [if_pos (show s 0 3 ≤ _ by split <;> omega)]
      simp (disch := first | assumption | omega | decide) only [kX8_isApart, eX8_isApart, g1, g2, c4, q1, q2, h1, h2, jx_qI_a, jn_LL, true_or, or_true, true_and, if_true, if_false]
end TPF
