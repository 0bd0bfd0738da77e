/-! office: the parts of the text, as the class reads them -/
def tf_s2 (s : tp_S) (p x y : Nat) : tp_S := fun i j => if i = 0 ∧ j = 0 then p + 1 else if i = 1 ∧ j = p then x else if i = 2 ∧ j = p then y else s i j
def tf_s3 (s : tp_S) (c k z x : Nat) : tp_S := fun i j => if i = 0 ∧ j = 1 then c + 1 else if i = 3 ∧ j = c then k else if i = 4 ∧ j = c then z else if i = 5 ∧ j = c then x else s i j
/-- the people -/
def tf_pe (v : Nat → Int32) (n : Nat) : Nat → Nat → Nat → tp_S → Option tp_S × Nat
  | 0, _, a, s => (some s, a)
  | r + 1, p, a, s => if tf_K v n a = 44 then (match tf_dg v n (a + 1) 0 9 with
    | none => (none, a + 1)
    | some x => match tf_dg v n (a + 2) 0 5 with
      | none => (none, a + 2)
      | some y => tf_pe v n r (p + 1) (a + 3) (tf_s2 s p x y)) else (some s, a)
def tf_kd (x : Int32) : Option Nat := if x = 99 then some 0 else if x = 100 then some 1 else if x = 98 then some 2 else none
/-- the claps -/
def tf_cl (v : Nat → Int32) (n : Nat) : Nat → Nat → Nat → tp_S → Option tp_S × Nat
  | 0, _, a, s => (some s, a)
  | r + 1, c, a, s => if tf_K v n a = 59 then (match tf_kd (tf_K v n (a + 1)) with
    | none => (none, a + 1)
    | some k => match tf_dg v n (a + 2) 1 9 with
      | none => (none, a + 2)
      | some z => match tf_dg v n (a + 3) 0 (s 0 0 - 1) with
        | none => (none, a + 3)
        | some x => tf_cl v n r (c + 1) (a + 4) (tf_s3 s c k z x)) else (some s, a)
section TF2
variable {d t i n D len : Nat} {v : Nat → Int32} {M : jx_M}
theorem tf_fr.trans {M1 M2 M3 : jx_M} (h : tf_fr D M1 M2) (h2 : tf_fr D M2 M3) : tf_fr D M1 M3 := fun x y z1 z2 => (h x y z1 z2).trans (h2 x y z1 z2)
theorem tf_fr_at {M : jx_M} {b : Nat} {x : Int32} : tf_fr D (jx_up M 2 b x) M := fun a b z1 _ => by rw [jx_upA (by omega)]
theorem tf_fr_D {M : jx_M} {a b : Nat} {x : Int32} (h : D ≤ a ∧ a ≤ D + 5) : tf_fr D (jx_up M a b x) M := fun a' b' _ z2 => by rw [jx_upA (by omega)]
theorem tf_c_at {a : Nat} (ht : tf_t t i n D len) (hc : tf_c M t i n D v len a) (a' : Nat) : tf_c (jx_up M 2 4 (nI a')) t i n D v len a' :=
  tf_c_fr ht hc tf_fr_at (jx_upB (by decide)) (jx_upB (by decide)) (jx_upB (by decide)) (jx_upB (by decide)) (jx_upS _ _ _ _)
theorem tf_c_D {a x y : Nat} {z : Int32} (ht : tf_t t i n D len) (hc : tf_c M t i n D v len a) (h : D ≤ x ∧ x ≤ D + 5) : tf_c (jx_up M x y z) t i n D v len a := by
  have hD : D = 16 ∨ D = 22 := ht.2.2.2.2.2.2.2
  exact tf_c_fr ht hc (tf_fr_D h) (jx_upA (by omega)) (jx_upA (by omega)) (jx_upA (by omega)) (jx_upA (by omega)) (by rw [jx_upA (by omega)]; exact hc.2.2.2.2.1)
theorem tf_c_rv {a : Nat} (ht : tf_t t i n D len) (hc : tf_c M t i n D v len a) : jx_rv (M 2 1) = .ref D := by
  have hD : D = 16 ∨ D = 22 := ht.2.2.2.2.2.2.2
  rw [hc.2.1]
  exact tp_rvn (by omega)
theorem tf_nn {x : Nat} (h : x ≤ 9) : (0 : Int32) ≤ nI x ∧ ¬ nI x < 0 := ⟨(jn_le (a := 0) (by decide) (by omega)).mpr (Nat.zero_le x), nI_pos (by omega)⟩
/-- one of the people -/
theorem tf_person {p a : Nat} {s : tp_S} (ht : tf_t t i n D len) (hc : tf_c M t i n D v len a) (ha : a < 900) (hp : p < 5) (hC : tp_C M D s) (hs : s 0 0 = p) {q : Int32 → jx_M → Prop}
    (k1 : tf_dg v n a 0 9 = none → q 0 (jx_up M (D + 1) p (-9)))
    (k2 : ∀ x M', tf_dg v n a 0 9 = some x → tf_dg v n (a + 1) 0 5 = none → tf_fr D M' M → M' 2 4 = nI (a + 1) → q 0 M')
    (k3 : ∀ x y M', tf_dg v n a 0 9 = some x → tf_dg v n (a + 1) 0 5 = some y → tf_fr D M' M → tf_c M' t i n D v len (a + 2) → tp_C (jx_up M' D 5 (nI (p + 1))) D (tf_s2 s p x y) → q 1 M') : jx_I (d + 3) mX6_readsPerson [.ref 2, .int (nI p)] M q := by
  have ho : tp_O D := ht.2.2.2.2.2.2.2
  have hD : D = 16 ∨ D = 22 := ho
  obtain ⟨o0, o1, o2, o3, o4, o5, z1, z2, z3, z4, z5⟩ := tp_Ot ho
  have n0 : (0 : Int32) = nI 0 := fa_lit 0
  have n9 : (9 : Int32) = nI 9 := fa_lit 9
  have n5 : (5 : Int32) = nI 5 := fa_lit 5
  have e1 := tf_c_rv ht hc
  have neg9 : ¬ (0 : Int32) ≤ -9 := by decide
  have neg9' : (-9 : Int32) < 0 := by decide
  rcases hd : tf_dg v n a 0 9 with _ | x
  · have g := fun d q => tf_digit_n (d := d) (q := q) ht hc (by omega) (by decide) (by decide) hd
    rw [← n0, ← n9] at g
    have hq := k1 hd
    have e2 := tf_c_rv ht (tf_c_D (x := D + 1) (y := p) (z := -9) ht hc (by omega))
    have e3 := jx_upS M (D + 1) p (-9)
    simp (disch := first | assumption | omega | decide) only [jx_qI_a, jx_qV_a, jx_qL_a, jn_lt, jn_le, jn_eq, jn_L, jn_A, jn_N, jn_LL, jn_add, jn_mul, jn_sub, jn_cl, jn_vin, jn_shl1, jn_shr, jn_or, jn_l_or0, jn_and1, jo_ltT, jo_ltF, jo_leT, jo_leF, jo_eqT, jo_eqF, true_or, or_true, true_and, and_true, false_or, or_false, false_and, and_false, if_true, if_false, not_true_eq_false, not_false_eq_true, jx_tab, kX6_readsPerson, eX6_readsPerson, e1, e2, e3, g, neg9, hq]
  · have g := fun d q => tf_digit_y (d := d) (q := q) ht hc (by omega) (by decide) (by decide) hd
    rw [← n0, ← n9] at g
    obtain ⟨-, -, hx, -⟩ := tf_dg_y (by decide) (by decide) hd
    obtain ⟨w1, w2⟩ := tf_nn hx
    have hc1 := tf_c_at ht hc (a + 1)
    have hc2 := tf_c_D (x := D + 1) (y := p) (z := nI x) ht hc1 (by omega)
    have e2 := tf_c_rv ht hc2
    have e3 := jx_upS (jx_up M 2 4 (nI (a + 1))) (D + 1) p (nI x)
    rcases hd2 : tf_dg v n (a + 1) 0 5 with _ | y
    · have g2 := fun d q => tf_digit_n (d := d) (q := q) ht hc2 (by omega) (by decide) (by decide) hd2
      rw [← n0, ← n5] at g2
      have hc3 := tf_c_D (x := D + 2) (y := p) (z := -9) ht hc2 (by omega)
      have e4 := tf_c_rv ht hc3
      have e5 := jx_upS (jx_up (jx_up M 2 4 (nI (a + 1))) (D + 1) p (nI x)) (D + 2) p (-9)
      have hq := k2 x _ hd hd2 (((tf_fr_D (D := D) (M := jx_up (jx_up M 2 4 (nI (a + 1))) (D + 1) p (nI x)) (a := D + 2) (b := p) (x := -9) (by omega)).trans (tf_fr_D (by omega))).trans tf_fr_at) hc3.2.2.2.2.1
      simp (disch := first | assumption | omega | decide) only [jx_qI_a, jx_qV_a, jx_qL_a, jn_lt, jn_le, jn_eq, jn_L, jn_A, jn_N, jn_LL, jn_add, jn_mul, jn_sub, jn_cl, jn_vin, jn_shl1, jn_shr, jn_or, jn_l_or0, jn_and1, jo_ltT, jo_ltF, jo_leT, jo_leF, jo_eqT, jo_eqF, true_or, or_true, true_and, and_true, false_or, or_false, false_and, and_false, if_true, if_false, not_true_eq_false, not_false_eq_true, jx_tab, kX6_readsPerson, eX6_readsPerson, e1, e2, e3, e4, e5, g, g2, w1, neg9', hq]
    · have g2 := fun d q => tf_digit_y (d := d) (q := q) ht hc2 (by omega) (by decide) (by decide) hd2
      rw [← n0, ← n5] at g2
      obtain ⟨-, -, hy, -⟩ := tf_dg_y (by decide) (by decide) hd2
      obtain ⟨w3, w4⟩ := tf_nn (show y ≤ 9 by omega)
      have hc3 := tf_c_D (x := D + 2) (y := p) (z := nI y) ht (tf_c_at ht hc2 (a + 1 + 1)) (by omega)
      have e4 := tf_c_rv ht hc3
      have e5 := jx_upS (jx_up (jx_up (jx_up M 2 4 (nI (a + 1))) (D + 1) p (nI x)) 2 4 (nI (a + 1 + 1))) (D + 2) p (nI y)
      have hq := k3 x y _ hd hd2 ((((tf_fr_D (D := D) (M := jx_up (jx_up (jx_up M 2 4 (nI (a + 1))) (D + 1) p (nI x)) 2 4 (nI (a + 1 + 1))) (a := D + 2) (b := p) (x := nI y) (by omega)).trans tf_fr_at).trans (tf_fr_D (by omega))).trans tf_fr_at) hc3 (by
        obtain ⟨c1, c2, c3, c4, c5, c6⟩ := hC
        subst hs
        refine ⟨?_, ?_, ?_, ?_, fun p' hp' => ?_, fun c hcc => ?_⟩
        · rw [jx_upS]; simp [tf_s2]
        · simp [jx_upE, tf_s2, c2]
        · simp [jx_upE, tf_s2, c3]
        · simp [jx_upE, tf_s2, c4]
        · have hp2 : p' < s 0 0 + 1 := by simpa [tf_s2] using hp'
          by_cases e : p' = s 0 0
          · subst e
            constructor
            · simp [jx_upE, tf_s2]; omega
            · simp [jx_upE, tf_s2]
          · obtain ⟨f1, f2⟩ := c5 p' (by omega)
            constructor
            · rw [jx_upA (by omega), jx_upA (by omega), jx_upA (by omega), jx_upB (by omega), jx_upA (by omega), f1]; simp [tf_s2, e]
            · rw [jx_upA (by omega), jx_upB (by omega), jx_upA (by omega), jx_upA (by omega), jx_upA (by omega), f2]; simp [tf_s2, e]
        · have hc2 : c < s 0 1 := by simpa [tf_s2] using hcc
          obtain ⟨f1, f2, f3⟩ := c6 c hc2
          refine ⟨?_, ?_, ?_⟩
          · simp [jx_upE, tf_s2, f1]
          · simp [jx_upE, tf_s2, f2]
          · simp [jx_upE, tf_s2, f3])
      simp (disch := first | assumption | omega | decide) only [jx_qI_a, jx_qV_a, jx_qL_a, jn_lt, jn_le, jn_eq, jn_L, jn_A, jn_N, jn_LL, jn_add, jn_mul, jn_sub, jn_cl, jn_vin, jn_shl1, jn_shr, jn_or, jn_l_or0, jn_and1, jo_ltT, jo_ltF, jo_leT, jo_leF, jo_eqT, jo_eqF, true_or, or_true, true_and, and_true, false_or, or_false, false_and, and_false, if_true, if_false, not_true_eq_false, not_false_eq_true, jx_tab, kX6_readsPerson, eX6_readsPerson, e1, e2, e3, e4, e5, g, g2, w1, w4, hq]
/-- the people, one after another -/
theorem tf_people (ht : tf_t t i n D len) {Q : jx_Po} : ∀ r p a s (M : jx_M), p + r = 5 → a = 3 + 3 * p → s 0 0 = p → tf_c M t i n D v len a → tp_C M D s → (∀ M' s' a', tf_pe v n r p a s = (some s', a') → tf_fr D M' M → tf_c M' t i n D v len a' → tp_C M' D s' → a' ≤ 18 → Q [.int (if 0 < s' 0 0 then 1 else 0)] M') → (∀ M' a', tf_pe v n r p a s = (none, a') → tf_fr D M' M → M' 2 4 = nI a' → Q [.int 0] M') → jx_Ev (d + 4) mX6_readsPeople 2 [some (.ref 2), some (.int (nI p))] [] M Q
  | 0, p, a, s, M, h, ha, hs, hc, hC, k1, k0 => by
    have h : p = 5 := h
    subst h
    have ho : tp_O D := ht.2.2.2.2.2.2.2
    obtain ⟨o0, o1, o2, o3, o4, o5, z1, z2, z3, z4, z5⟩ := tp_Ot ho
    have hq := k1 M s a rfl (fun _ _ _ _ => rfl) hc hC (by omega)
    have e1 := tf_c_rv ht hc
    have c1 := hC.1
    rw [hs] at c1 hq
    rw [if_pos (by decide)] at hq
    rw [eX6_readsPeople_2]
    simp (disch := first | assumption | omega | decide) only [jx_qI_a, jx_qV_a, jx_qL_a, jn_lt, jn_le, jn_eq, jn_L, jn_A, jn_N, jn_LL, jn_add, jn_mul, jn_sub, jn_cl, jn_vin, jn_shl1, jn_shr, jn_or, jn_l_or0, jn_and1, jo_ltT, jo_ltF, jo_leT, jo_leF, jo_eqT, jo_eqF, true_or, or_true, true_and, and_true, false_or, or_false, false_and, and_false, if_true, if_false, not_true_eq_false, not_false_eq_true, jx_tab, eX6_readsPeople, e1, c1, hq]
  | r + 1, p, a, s, M, h, ha, hs, hc, hC, k1, k0 => by
    have ho : tp_O D := ht.2.2.2.2.2.2.2
    have hD : D = 16 ∨ D = 22 := ho
    obtain ⟨o0, o1, o2, o3, o4, o5, z1, z2, z3, z4, z5⟩ := tp_Ot ho
    have e1 := tf_c_rv ht hc
    have c1 := hC.1
    rw [hs] at c1
    have g := fun d q => tf_takes (d := d) (q := q) ht hc (by omega) 44
    rw [tf_pe] at k1 k0
    rw [eX6_readsPeople_2]
    by_cases hk : tf_K v n a = 44
    · simp only [hk, if_true] at g
      rw [if_pos hk] at k1 k0
      have hc1 := tf_c_at ht hc (a + 1)
      have hC1 : tp_C (jx_up M 2 4 (nI (a + 1))) D s := tp_C_fr hC (fun x y z1 z2 => jx_upA (by omega))
      simp (disch := first | assumption | omega | decide) only [jx_qI_a, jx_qV_a, jx_qL_a, jn_lt, jn_le, jn_eq, jn_L, jn_A, jn_N, jn_LL, jn_add, jn_mul, jn_sub, jn_cl, jn_vin, jn_shl1, jn_shr, jn_or, jn_l_or0, jn_and1, jo_ltT, jo_ltF, jo_leT, jo_leF, jo_eqT, jo_eqF, true_or, or_true, true_and, and_true, false_or, or_false, false_and, and_false, if_true, if_false, not_true_eq_false, not_false_eq_true, jx_tab, eX6_readsPeople, g]
      refine tf_person (p := p) (a := a + 1) (d := d) ht hc1 (by omega) (by omega) hC1 hs (fun q1 => ?_) (fun x M' q1 q2 f1 f2 => ?_) (fun x y M' q1 q2 f1 f2 f3 => ?_)
      · rw [q1] at k0
        have hq := k0 (jx_up (jx_up M 2 4 (nI (a + 1))) (D + 1) p (-9)) _ rfl ((tf_fr_D (by omega)).trans tf_fr_at) (by rw [jx_upA (by omega), jx_upS])
        simp (disch := first | assumption | omega | decide) only [jx_qI_a, jx_qV_a, jx_qL_a, jn_lt, jn_le, jn_eq, jn_L, jn_A, jn_N, jn_LL, jn_add, jn_mul, jn_sub, jn_cl, jn_vin, jn_shl1, jn_shr, jn_or, jn_l_or0, jn_and1, jo_ltT, jo_ltF, jo_leT, jo_leF, jo_eqT, jo_eqF, true_or, or_true, true_and, and_true, false_or, or_false, false_and, and_false, if_true, if_false, not_true_eq_false, not_false_eq_true, jx_tab, eX6_readsPeople, hq]
      · rw [q1, q2] at k0
        have hq := k0 M' _ rfl (f1.trans tf_fr_at) f2
        simp (disch := first | assumption | omega | decide) only [jx_qI_a, jx_qV_a, jx_qL_a, jn_lt, jn_le, jn_eq, jn_L, jn_A, jn_N, jn_LL, jn_add, jn_mul, jn_sub, jn_cl, jn_vin, jn_shl1, jn_shr, jn_or, jn_l_or0, jn_and1, jo_ltT, jo_ltF, jo_leT, jo_leF, jo_eqT, jo_eqF, true_or, or_true, true_and, and_true, false_or, or_false, false_and, and_false, if_true, if_false, not_true_eq_false, not_false_eq_true, jx_tab, eX6_readsPeople, hq]
      · rw [q1, q2] at k0 k1
        have e1' := tf_c_rv ht f2
        have ih := tf_people ht (Q := Q) r (p + 1) (a + 3) (tf_s2 s p x y) (jx_up M' D 5 (nI (p + 1))) (by omega) (by omega) (by simp [tf_s2]) (tf_c_D ht f2 (by omega)) f3 (fun M2 s2 a2 w1 w2 => k1 M2 s2 a2 w1 ((w2.trans (tf_fr_D (by omega))).trans (f1.trans tf_fr_at))) (fun M2 a2 w1 w2 => k0 M2 a2 w1 ((w2.trans (tf_fr_D (by omega))).trans (f1.trans tf_fr_at)))
        simp (disch := first | assumption | omega | decide) only [jx_qI_a, jx_qV_a, jx_qL_a, jn_lt, jn_le, jn_eq, jn_L, jn_A, jn_N, jn_LL, jn_add, jn_mul, jn_sub, jn_cl, jn_vin, jn_shl1, jn_shr, jn_or, jn_l_or0, jn_and1, jo_ltT, jo_ltF, jo_leT, jo_leF, jo_eqT, jo_eqF, true_or, or_true, true_and, and_true, false_or, or_false, false_and, and_false, if_true, if_false, not_true_eq_false, not_false_eq_true, jx_tab, eX6_readsPeople, e1', ih]
    · simp only [hk, if_false] at g
      rw [if_neg hk] at k1
      have hq := k1 M s a rfl (fun _ _ _ _ => rfl) hc hC (by omega)
      rw [hs] at hq
      by_cases hp0 : 0 < p
      · rw [if_pos hp0] at hq
        simp (disch := first | assumption | omega | decide) only [jx_qI_a, jx_qV_a, jx_qL_a, jn_lt, jn_le, jn_eq, jn_L, jn_A, jn_N, jn_LL, jn_add, jn_mul, jn_sub, jn_cl, jn_vin, jn_shl1, jn_shr, jn_or, jn_l_or0, jn_and1, jo_ltT, jo_ltF, jo_leT, jo_leF, jo_eqT, jo_eqF, true_or, or_true, true_and, and_true, false_or, or_false, false_and, and_false, if_true, if_false, not_true_eq_false, not_false_eq_true, jx_tab, eX6_readsPeople, g, e1, c1, hq]
      · rw [if_neg hp0] at hq
        simp (disch := first | assumption | omega | decide) only [jx_qI_a, jx_qV_a, jx_qL_a, jn_lt, jn_le, jn_eq, jn_L, jn_A, jn_N, jn_LL, jn_add, jn_mul, jn_sub, jn_cl, jn_vin, jn_shl1, jn_shr, jn_or, jn_l_or0, jn_and1, jo_ltT, jo_ltF, jo_leT, jo_leF, jo_eqT, jo_eqF, true_or, or_true, true_and, and_true, false_or, or_false, false_and, and_false, if_true, if_false, not_true_eq_false, not_false_eq_true, jx_tab, eX6_readsPeople, g, e1, c1, hq]
end TF2
