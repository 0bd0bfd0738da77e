/-! the office, as numbers: s 0 0 people, s 0 1 claps, s 0 2 damp, s 0 3 gap; s 1 nerves, s 2 heirs, s 3 kinds, s 4 sizes, s 5 addresses -/
abbrev tp_S : Type := Nat → Nat → Nat
def tp_lo (s : tp_S) (c m : Nat) : Nat := if s 3 c = 2 then 2 * (s 4 c + s 0 2 * m) else if s 3 c = 1 then s 4 c + s 0 2 * m - 1 else s 4 c + s 0 2 * m
/-- what is so of each office -/
def tp_rg (s : tp_S) : Prop := s 0 0 ≤ 5 ∧ s 0 1 ≤ 6 ∧ s 0 2 ≤ 3 ∧ s 0 3 ≤ 9 ∧ (∀ p, p < s 0 0 → s 1 p ≤ 9 ∧ s 2 p ≤ 5) ∧ (∀ c, c < s 0 1 → s 3 c ≤ 2 ∧ 1 ≤ s 4 c ∧ s 4 c ≤ 9 ∧ s 5 c < s 0 0)
/-- the class's office at the place o -/
def tp_C (M : jx_M) (o : Nat) (s : tp_S) : Prop := M o 5 = nI (s 0 0) ∧ M o 6 = nI (s 0 1) ∧ M o 7 = nI (s 0 2) ∧ M o 8 = nI (s 0 3) ∧ (∀ p, p < s 0 0 → M (o + 1) p = nI (s 1 p) ∧ M (o + 2) p = nI (s 2 p)) ∧ (∀ c, c < s 0 1 → M (o + 3) c = nI (s 3 c) ∧ M (o + 4) c = nI (s 4 c) ∧ M (o + 5) c = nI (s 5 c))
/-- the places of an office -/
def tp_O (o : Nat) : Prop := o = 16 ∨ o = 22
theorem tp_Ot {o : Nat} (h : tp_O o) : jx_cl o = 1 ∧ jx_cl (o + 1) = 9 ∧ jx_cl (o + 2) = 9 ∧ jx_cl (o + 3) = 9 ∧ jx_cl (o + 4) = 9 ∧ jx_cl (o + 5) = 9 ∧ jx_sz (o + 1) = 5 ∧ jx_sz (o + 2) = 5 ∧ jx_sz (o + 3) = 6 ∧ jx_sz (o + 4) = 6 ∧ jx_sz (o + 5) = 6 := by
  rcases h with rfl | rfl <;> decide +kernel
theorem tp_lo_le {s : tp_S} (hr : tp_rg s) {c m : Nat} (hc : c < s 0 1) (hm : m ≤ 9) : tp_lo s c m ≤ 72 := by
  obtain ⟨-, -, h3, -, -, h6⟩ := hr
  obtain ⟨-, -, h4, -⟩ := h6 c hc
  have : s 0 2 * m ≤ 3 * 9 := Nat.mul_le_mul h3 hm
  unfold tp_lo
  split
  · omega
  · split <;> omega
/-- the claps that have p's address, below n -/
def tp_cf (s : tp_S) (p : Nat) : Nat → Nat
  | 0 => 0
  | n + 1 => tp_cf s p n ||| (if n < s 0 1 ∧ s 5 n = p then 2 ^ n else 0)
theorem tp_cf_lt (s : tp_S) (p : Nat) : ∀ n, tp_cf s p n < 2 ^ n
  | 0 => by show 0 < 1; decide
  | n + 1 => by
    have := tp_cf_lt s p n
    unfold tp_cf
    apply Nat.or_lt_two_pow
    · rw [Nat.pow_succ]; omega
    · split
      · rw [Nat.pow_succ]; have := Nat.two_pow_pos n; omega
      · exact Nat.two_pow_pos _
theorem tp_cf_top (s : tp_S) (p : Nat) : ∀ n, s 0 1 ≤ n → tp_cf s p n = tp_cf s p (s 0 1)
  | 0, h => by rw [show s 0 1 = 0 by omega]
  | n + 1, h => by
    by_cases e : s 0 1 = n + 1
    · rw [e]
    · rw [tp_cf, if_neg (by omega), Nat.or_zero]
      exact tp_cf_top s p n (by omega)
/-- who takes it, of those at home (a set), asked at most n times from p on -/
def tp_tk (s : tp_S) (ah lo : Nat) : Nat → Nat → Option Nat
  | 0, _ => none
  | n + 1, p => if p < s 0 0 then (if ah / 2 ^ p % 2 = 1 ∧ lo ≤ s 1 p then some p else tp_tk s ah lo n (s 2 p)) else none
def tp_r : Option Nat → Int32
  | none => -9
  | some p => nI p
section TPO
variable {d o : Nat} {M : jx_M} {s : tp_S} {q : Int32 → jx_M → Prop}
theorem tp_stands (ho : tp_O o) (hr : tp_rg s) (hC : tp_C M o s) : jx_I d mX1_stands [.ref o] M q ↔ q (if 0 < s 0 1 then 1 else 0) M := by
  obtain ⟨o0, o1, o2, o3, o4, o5, z1, z2, z3, z4, z5⟩ := tp_Ot ho
  obtain ⟨r1, r2, r3, r4, r5, r6⟩ := id hr
  obtain ⟨c1, c2, c3, c4, c5, c6⟩ := id hC
  by_cases h : s 0 1 ≤ 0
  · simp (disch := first | assumption | omega | decide) only [jx_qI_a, jx_qV_a, jx_qL_a, jn_lt, jn_le, jn_eq, jn_L, jn_A, jn_N, jn_LL, jn_add, jn_mul, jn_sub, jn_cl, jn_vin, jn_shl1, jn_shr, jn_or, jn_l_or0, jn_and1, jo_ltT, jo_ltF, jo_leT, jo_leF, jo_eqT, jo_eqF, true_or, or_true, true_and, and_true, false_or, or_false, false_and, and_false, if_true, if_false, not_true_eq_false, not_false_eq_true, jx_tab, kX1_stands, eX1_stands, c2]
  · simp (disch := first | assumption | omega | decide) only [jx_qI_a, jx_qV_a, jx_qL_a, jn_lt, jn_le, jn_eq, jn_L, jn_A, jn_N, jn_LL, jn_add, jn_mul, jn_sub, jn_cl, jn_vin, jn_shl1, jn_shr, jn_or, jn_l_or0, jn_and1, jo_ltT, jo_ltF, jo_leT, jo_leF, jo_eqT, jo_eqF, true_or, or_true, true_and, and_true, false_or, or_false, false_and, and_false, if_true, if_false, not_true_eq_false, not_false_eq_true, jx_tab, kX1_stands, eX1_stands, c2]
theorem tp_hasClap_y (ho : tp_O o) (hr : tp_rg s) (hC : tp_C M o s) {c : Nat} (hc : c < s 0 1) : jx_I d mX1_hasClap [.ref o, .int (nI c)] M q ↔ q 1 M := by
  obtain ⟨o0, o1, o2, o3, o4, o5, z1, z2, z3, z4, z5⟩ := tp_Ot ho
  obtain ⟨r1, r2, r3, r4, r5, r6⟩ := id hr
  obtain ⟨c1, c2, c3, c4, c5, c6⟩ := id hC
  simp (disch := first | assumption | omega | decide) only [jx_qI_a, jx_qV_a, jx_qL_a, jn_lt, jn_le, jn_eq, jn_L, jn_A, jn_N, jn_LL, jn_add, jn_mul, jn_sub, jn_cl, jn_vin, jn_shl1, jn_shr, jn_or, jn_l_or0, jn_and1, jo_ltT, jo_ltF, jo_leT, jo_leF, jo_eqT, jo_eqF, true_or, or_true, true_and, and_true, false_or, or_false, false_and, and_false, if_true, if_false, not_true_eq_false, not_false_eq_true, jx_tab, kX1_hasClap, eX1_hasClap, c2]
theorem tp_hasClap_n (ho : tp_O o) (hr : tp_rg s) (hC : tp_C M o s) {x : Int32} (hx : x < 0 ∨ nI (s 0 1) ≤ x) : jx_I d mX1_hasClap [.ref o, .int x] M q ↔ q 0 M := by
  obtain ⟨o0, o1, o2, o3, o4, o5, z1, z2, z3, z4, z5⟩ := tp_Ot ho
  obtain ⟨c1, c2, c3, c4, c5, c6⟩ := id hC
  simp (disch := first | assumption | omega | decide) only [jx_qI_a, jx_qV_a, jx_qL_a, jn_LL, true_or, or_true, true_and, and_true, false_or, or_false, false_and, and_false, if_true, if_false, not_true_eq_false, not_false_eq_true, jx_tab, kX1_hasClap, eX1_hasClap, c2]
  rcases hx with h | h
  · rw [if_pos h]
  · by_cases h2 : x < 0
    · rw [if_pos h2]
    · rw [if_neg h2, if_pos h]
theorem tp_hasPerson_y (ho : tp_O o) (hr : tp_rg s) (hC : tp_C M o s) {c : Nat} (hc : c < s 0 0) : jx_I d mX1_hasPerson [.ref o, .int (nI c)] M q ↔ q 1 M := by
  obtain ⟨o0, o1, o2, o3, o4, o5, z1, z2, z3, z4, z5⟩ := tp_Ot ho
  obtain ⟨r1, r2, r3, r4, r5, r6⟩ := id hr
  obtain ⟨c1, c2, c3, c4, c5, c6⟩ := id hC
  simp (disch := first | assumption | omega | decide) only [jx_qI_a, jx_qV_a, jx_qL_a, jn_lt, jn_le, jn_eq, jn_L, jn_A, jn_N, jn_LL, jn_add, jn_mul, jn_sub, jn_cl, jn_vin, jn_shl1, jn_shr, jn_or, jn_l_or0, jn_and1, jo_ltT, jo_ltF, jo_leT, jo_leF, jo_eqT, jo_eqF, true_or, or_true, true_and, and_true, false_or, or_false, false_and, and_false, if_true, if_false, not_true_eq_false, not_false_eq_true, jx_tab, kX1_hasPerson, eX1_hasPerson, c1]
theorem tp_hasPerson_n (ho : tp_O o) (hr : tp_rg s) (hC : tp_C M o s) {x : Int32} (hx : x < 0 ∨ nI (s 0 0) ≤ x) : jx_I d mX1_hasPerson [.ref o, .int x] M q ↔ q 0 M := by
  obtain ⟨o0, o1, o2, o3, o4, o5, z1, z2, z3, z4, z5⟩ := tp_Ot ho
  obtain ⟨c1, c2, c3, c4, c5, c6⟩ := id hC
  simp (disch := first | assumption | omega | decide) only [jx_qI_a, jx_qV_a, jx_qL_a, jn_LL, true_or, or_true, true_and, and_true, false_or, or_false, false_and, and_false, if_true, if_false, not_true_eq_false, not_false_eq_true, jx_tab, kX1_hasPerson, eX1_hasPerson, c1]
  rcases hx with h | h
  · rw [if_pos h]
  · by_cases h2 : x < 0
    · rw [if_pos h2]
    · rw [if_neg h2, if_pos h]
theorem tp_isFor_y (ho : tp_O o) (hr : tp_rg s) (hC : tp_C M o s) {c p : Nat} (hc : c < s 0 1) (hp : p < 100) : jx_I (d + 1) mX1_isFor [.ref o, .int (nI c), .int (nI p)] M q ↔ q (if s 5 c = p then 1 else 0) M := by
  obtain ⟨o0, o1, o2, o3, o4, o5, z1, z2, z3, z4, z5⟩ := tp_Ot ho
  have hh := fun d q => tp_hasClap_y (d := d) (q := q) ho hr hC hc
  obtain ⟨r1, r2, r3, r4, r5, r6⟩ := id hr
  obtain ⟨c1, c2, c3, c4, c5, c6⟩ := id hC
  have a5 := (r6 c hc).2.2.2
  simp (disch := first | assumption | omega | decide) only [jx_qI_a, jx_qV_a, jx_qL_a, jn_lt, jn_le, jn_eq, jn_L, jn_A, jn_N, jn_LL, jn_add, jn_mul, jn_sub, jn_cl, jn_vin, jn_shl1, jn_shr, jn_or, jn_l_or0, jn_and1, jo_ltT, jo_ltF, jo_leT, jo_leF, jo_eqT, jo_eqF, true_or, or_true, true_and, and_true, false_or, or_false, false_and, and_false, if_true, if_false, not_true_eq_false, not_false_eq_true, jx_tab, kX1_isFor, eX1_isFor, hh, (c6 c hc).2.2, z5]
  exact jq_ite
theorem tp_isFor_n (ho : tp_O o) (hr : tp_rg s) (hC : tp_C M o s) {x y : Int32} (hx : x < 0 ∨ nI (s 0 1) ≤ x) : jx_I (d + 1) mX1_isFor [.ref o, .int x, .int y] M q ↔ q 0 M := by
  obtain ⟨o0, o1, o2, o3, o4, o5, z1, z2, z3, z4, z5⟩ := tp_Ot ho
  have hh := fun d q => tp_hasClap_n (d := d) (q := q) ho hr hC hx
  obtain ⟨c1, c2, c3, c4, c5, c6⟩ := id hC
  simp (disch := first | assumption | omega | decide) only [jx_qI_a, jx_qV_a, jx_qL_a, jn_LL, true_or, or_true, true_and, and_true, false_or, or_false, false_and, and_false, if_true, if_false, not_true_eq_false, not_false_eq_true, jx_tab, kX1_isFor, eX1_isFor, hh]
theorem tp_everybody (ho : tp_O o) (hr : tp_rg s) (hC : tp_C M o s) : jx_I d mX1_everybody [.ref o] M q ↔ q (nI (2 ^ s 0 0 - 1)) M := by
  obtain ⟨o0, o1, o2, o3, o4, o5, z1, z2, z3, z4, z5⟩ := tp_Ot ho
  obtain ⟨r1, r2, r3, r4, r5, r6⟩ := id hr
  obtain ⟨c1, c2, c3, c4, c5, c6⟩ := id hC
  have := Nat.two_pow_pos (s 0 0)
  simp (disch := first | assumption | omega | decide) only [jx_qI_a, jx_qV_a, jx_qL_a, jn_lt, jn_le, jn_eq, jn_L, jn_A, jn_N, jn_LL, jn_add, jn_mul, jn_sub, jn_cl, jn_vin, jn_shl1, jn_shr, jn_or, jn_l_or0, jn_and1, jo_ltT, jo_ltF, jo_leT, jo_leF, jo_eqT, jo_eqF, true_or, or_true, true_and, and_true, false_or, or_false, false_and, and_false, if_true, if_false, not_true_eq_false, not_false_eq_true, jx_tab, kX1_everybody, eX1_everybody, c1]
theorem tp_loudness (ho : tp_O o) (hr : tp_rg s) (hC : tp_C M o s) {c m : Nat} (hc : c < s 0 1) (hm : m < 100) : jx_I (d + 1) mX1_loudness [.ref o, .int (nI c), .int (nI m)] M q ↔ q (nI (tp_lo s c m)) M := by
  obtain ⟨o0, o1, o2, o3, o4, o5, z1, z2, z3, z4, z5⟩ := tp_Ot ho
  have hh := fun d q => tp_hasClap_y (d := d) (q := q) ho hr hC hc
  obtain ⟨r1, r2, r3, r4, r5, r6⟩ := id hr
  obtain ⟨c1, c2, c3, c4, c5, c6⟩ := id hC
  obtain ⟨g1, g2, g3, g4⟩ := r6 c hc
  obtain ⟨k3, k4, k5⟩ := c6 c hc
  simp (disch := first | assumption | omega | decide) only [jx_qI_a, jx_qV_a, jx_qL_a, jn_lt, jn_le, jn_eq, jn_L, jn_A, jn_N, jn_LL, jn_add, jn_mul, jn_sub, jn_cl, jn_vin, jn_shl1, jn_shr, jn_or, jn_l_or0, jn_and1, jo_ltT, jo_ltF, jo_leT, jo_leF, jo_eqT, jo_eqF, true_or, or_true, true_and, and_true, false_or, or_false, false_and, and_false, if_true, if_false, not_true_eq_false, not_false_eq_true, jx_tab, kX1_loudness, eX1_loudness, hh, k3, k4, c3, z3, z4, tp_lo]
  by_cases e2 : s 3 c = 2
  · rw [if_pos e2, if_pos e2]
  · rw [if_neg e2, if_neg e2]
    by_cases e1 : s 3 c = 1
    · rw [if_pos e1, if_pos e1]
    · rw [if_neg e1, if_neg e1]
theorem tp_clapsFor_l (ho : tp_O o) (hr : tp_rg s) (hC : tp_C M o s) {p : Nat} (hp : p < 100) {Q : jx_Po} : ∀ k c, c + k = 6 → (jx_Ev (d + 2) mX1_clapsFor 4 [some (.ref o), some (.int (nI p)), some (.int (nI (tp_cf s p c))), some (.int (nI c))] [] M Q ↔ Q [.int (nI (tp_cf s p 6))] M)
  | 0, c, h => by
    have h : c = 6 := h
    subst h
    rw [eX1_clapsFor_4]
    simp (disch := first | assumption | omega | decide) only [jx_qI_a, jx_qV_a, jx_qL_a, jn_lt, jn_le, jn_eq, jn_L, jn_A, jn_N, jn_LL, jn_add, jn_mul, jn_sub, jn_cl, jn_vin, jn_shl1, jn_shr, jn_or, jn_l_or0, jn_and1, jo_ltT, jo_ltF, jo_leT, jo_leF, jo_eqT, jo_eqF, true_or, or_true, true_and, and_true, false_or, or_false, false_and, and_false, if_true, if_false, not_true_eq_false, not_false_eq_true, jx_tab, eX1_clapsFor]
  | k + 1, c, h => by
    have ih := tp_clapsFor_l ho hr hC hp (Q := Q) k (c + 1) (by omega)
    have hlt := tp_cf_lt s p c
    obtain ⟨o0, o1, o2, o3, o4, o5, z1, z2, z3, z4, z5⟩ := tp_Ot ho
    rw [eX1_clapsFor_4]
    by_cases hc : c < s 0 1
    · have hh := fun d q => tp_isFor_y (d := d) (q := q) ho hr hC hc hp
      by_cases h5 : s 5 c = p
      · rw [tp_cf, if_pos ⟨hc, h5⟩] at ih
        simp (disch := first | assumption | omega | decide) only [jx_qI_a, jx_qV_a, jx_qL_a, jn_lt, jn_le, jn_eq, jn_L, jn_A, jn_N, jn_LL, jn_add, jn_mul, jn_sub, jn_cl, jn_vin, jn_shl1, jn_shr, jn_or, jn_l_or0, jn_and1, jo_ltT, jo_ltF, jo_leT, jo_leF, jo_eqT, jo_eqF, true_or, or_true, true_and, and_true, false_or, or_false, false_and, and_false, if_true, if_false, not_true_eq_false, not_false_eq_true, jx_tab, eX1_clapsFor, hh, ih]
      · rw [tp_cf, if_neg (fun z => h5 z.2), Nat.or_zero] at ih
        simp (disch := first | assumption | omega | decide) only [jx_qI_a, jx_qV_a, jx_qL_a, jn_lt, jn_le, jn_eq, jn_L, jn_A, jn_N, jn_LL, jn_add, jn_mul, jn_sub, jn_cl, jn_vin, jn_shl1, jn_shr, jn_or, jn_l_or0, jn_and1, jo_ltT, jo_ltF, jo_leT, jo_leF, jo_eqT, jo_eqF, true_or, or_true, true_and, and_true, false_or, or_false, false_and, and_false, if_true, if_false, not_true_eq_false, not_false_eq_true, jx_tab, eX1_clapsFor, hh, ih]
    · have hh := fun d q y => tp_isFor_n (d := d) (q := q) (x := nI c) (y := y) ho hr hC (Or.inr ((jn_le (by have := hr.2.1; omega) (by omega)).mpr (by omega)))
      rw [tp_cf, if_neg (fun z => hc z.1), Nat.or_zero] at ih
      simp (disch := first | assumption | omega | decide) only [jx_qI_a, jx_qV_a, jx_qL_a, jn_lt, jn_le, jn_eq, jn_L, jn_A, jn_N, jn_LL, jn_add, jn_mul, jn_sub, jn_cl, jn_vin, jn_shl1, jn_shr, jn_or, jn_l_or0, jn_and1, jo_ltT, jo_ltF, jo_leT, jo_leF, jo_eqT, jo_eqF, true_or, or_true, true_and, and_true, false_or, or_false, false_and, and_false, if_true, if_false, not_true_eq_false, not_false_eq_true, jx_tab, eX1_clapsFor, hh, ih]
theorem tp_clapsFor (ho : tp_O o) (hr : tp_rg s) (hC : tp_C M o s) {p : Nat} (hp : p < 100) : jx_I (d + 2) mX1_clapsFor [.ref o, .int (nI p)] M q ↔ q (nI (tp_cf s p 6)) M := by
  have h := tp_clapsFor_l (d := d) ho hr hC hp (Q := jx_qI q) 6 0 rfl
  rw [jx_qI_a] at h
  simp (disch := first | assumption | omega | decide) only [jx_qI_a, jx_qV_a, jx_qL_a, jn_LL, true_or, or_true, true_and, and_true, false_or, or_false, false_and, and_false, if_true, if_false, not_true_eq_false, not_false_eq_true, jx_tab, kX1_clapsFor, eX1_clapsFor]
  exact h
theorem tp_takerOf_l (ho : tp_O o) (hr : tp_rg s) (hC : tp_C M o s) {ah lo : Nat} (hah : ah < 100) (hlo : lo < 100) {Q : jx_Po} {l1 l2 : Option Value} : ∀ k n p, n + k = 5 → p < 100 → (jx_Ev (d + 1) mX1_takerOf 30 [some (.ref o), l1, l2, some (.int (nI ah)), some (.int (nI lo)), some (.int (nI p)), some (.int (nI n))] [] M Q ↔ Q [.int (tp_r (tp_tk s ah lo k p))] M)
  | 0, n, p, h, hp => by
    have h : n = 5 := h
    subst h
    rw [eX1_takerOf_30]
    simp (disch := first | assumption | omega | decide) only [jx_qI_a, jx_qV_a, jx_qL_a, jn_lt, jn_le, jn_eq, jn_L, jn_A, jn_N, jn_LL, jn_add, jn_mul, jn_sub, jn_cl, jn_vin, jn_shl1, jn_shr, jn_or, jn_l_or0, jn_and1, jo_ltT, jo_ltF, jo_leT, jo_leF, jo_eqT, jo_eqF, true_or, or_true, true_and, and_true, false_or, or_false, false_and, and_false, if_true, if_false, not_true_eq_false, not_false_eq_true, jx_tab, eX1_takerOf, tp_tk, tp_r]
  | k + 1, n, p, h, hp => by
    obtain ⟨o0, o1, o2, o3, o4, o5, z1, z2, z3, z4, z5⟩ := tp_Ot ho
    rw [eX1_takerOf_30]
    by_cases hc : p < s 0 0
    · have hh := fun d q => tp_hasPerson_y (d := d) (q := q) ho hr hC hc
      obtain ⟨g1, g2⟩ := hr.2.2.2.2.1 p hc
      have ih := tp_takerOf_l ho hr hC hah hlo (Q := Q) (l1 := l1) (l2 := l2) k (n + 1) (s 2 p) (by omega) (by omega)
      obtain ⟨r1, r2, r3, r4, r5, r6⟩ := id hr
      obtain ⟨c1, c2, c3, c4, c5, c6⟩ := id hC
      obtain ⟨k1, k2⟩ := c5 p hc
      have hb : ah / 2 ^ p < 2147483648 := Nat.lt_of_le_of_lt (Nat.div_le_self _ _) (by omega)
      have hb2 : ah / 2 ^ p % 2 < 2 := Nat.mod_lt _ (by decide)
      rw [tp_tk, if_pos hc]
      by_cases e1 : ah / 2 ^ p % 2 = 1
      · by_cases e2 : lo ≤ s 1 p
        · rw [if_pos ⟨e1, e2⟩]
          simp (disch := first | assumption | omega | decide) only [jx_qI_a, jx_qV_a, jx_qL_a, jn_lt, jn_le, jn_eq, jn_L, jn_A, jn_N, jn_LL, jn_add, jn_mul, jn_sub, jn_cl, jn_vin, jn_shl1, jn_shr, jn_or, jn_l_or0, jn_and1, jo_ltT, jo_ltF, jo_leT, jo_leF, jo_eqT, jo_eqF, true_or, or_true, true_and, and_true, false_or, or_false, false_and, and_false, if_true, if_false, not_true_eq_false, not_false_eq_true, jx_tab, eX1_takerOf, hh, k1, k2, z1, z2, tp_r]
        · rw [if_neg (fun z => e2 z.2)]
          simp (disch := first | assumption | omega | decide) only [jx_qI_a, jx_qV_a, jx_qL_a, jn_lt, jn_le, jn_eq, jn_L, jn_A, jn_N, jn_LL, jn_add, jn_mul, jn_sub, jn_cl, jn_vin, jn_shl1, jn_shr, jn_or, jn_l_or0, jn_and1, jo_ltT, jo_ltF, jo_leT, jo_leF, jo_eqT, jo_eqF, true_or, or_true, true_and, and_true, false_or, or_false, false_and, and_false, if_true, if_false, not_true_eq_false, not_false_eq_true, jx_tab, eX1_takerOf, hh, k1, k2, z1, z2, ih]
      · rw [if_neg (fun z => e1 z.1)]
        simp (disch := first | assumption | omega | decide) only [jx_qI_a, jx_qV_a, jx_qL_a, jn_lt, jn_le, jn_eq, jn_L, jn_A, jn_N, jn_LL, jn_add, jn_mul, jn_sub, jn_cl, jn_vin, jn_shl1, jn_shr, jn_or, jn_l_or0, jn_and1, jo_ltT, jo_ltF, jo_leT, jo_leF, jo_eqT, jo_eqF, true_or, or_true, true_and, and_true, false_or, or_false, false_and, and_false, if_true, if_false, not_true_eq_false, not_false_eq_true, jx_tab, eX1_takerOf, hh, k1, k2, z1, z2, ih]
    · have hh := fun d q => tp_hasPerson_n (d := d) (q := q) (x := nI p) ho hr hC (Or.inr ((jn_le (by have := hr.1; omega) (by omega)).mpr (by omega)))
      rw [tp_tk, if_neg hc]
      simp (disch := first | assumption | omega | decide) only [jx_qI_a, jx_qV_a, jx_qL_a, jn_lt, jn_le, jn_eq, jn_L, jn_A, jn_N, jn_LL, jn_add, jn_mul, jn_sub, jn_cl, jn_vin, jn_shl1, jn_shr, jn_or, jn_l_or0, jn_and1, jo_ltT, jo_ltF, jo_leT, jo_leF, jo_eqT, jo_eqF, true_or, or_true, true_and, and_true, false_or, or_false, false_and, and_false, if_true, if_false, not_true_eq_false, not_false_eq_true, jx_tab, eX1_takerOf, hh, tp_r]
theorem tp_takerOf (ho : tp_O o) (hr : tp_rg s) (hC : tp_C M o s) {c m ah : Nat} (hc : c < s 0 1) (hm : m ≤ 9) (hah : ah < 100) : jx_I (d + 2) mX1_takerOf [.ref o, .int (nI c), .int (nI m), .int (nI ah)] M q ↔ q (tp_r (tp_tk s ah (tp_lo s c m) 5 (s 5 c))) M := by
  have hlo := tp_lo_le hr hc hm
  have g := hr.2.2.2.2.2 c hc
  have hh := fun d q => tp_hasClap_y (d := d) (q := q) ho hr hC hc
  have hl := fun d q => tp_loudness (d := d) (q := q) ho hr hC hc (show m < 100 by omega)
  have h := tp_takerOf_l (d := d + 1) ho hr hC hah (show tp_lo s c m < 100 by omega) (Q := jx_qI q) (l1 := some (.int (nI c))) (l2 := some (.int (nI m))) 5 0 (s 5 c) rfl (by have := hr.1; omega)
  rw [jx_qI_a] at h
  obtain ⟨o0, o1, o2, o3, o4, o5, z1, z2, z3, z4, z5⟩ := tp_Ot ho
  obtain ⟨r1, r2, r3, r4, r5, r6⟩ := id hr
  obtain ⟨c1, c2, c3, c4, c5, c6⟩ := id hC
  simp (disch := first | assumption | omega | decide) only [jx_qI_a, jx_qV_a, jx_qL_a, jn_lt, jn_le, jn_eq, jn_L, jn_A, jn_N, jn_LL, jn_add, jn_mul, jn_sub, jn_cl, jn_vin, jn_shl1, jn_shr, jn_or, jn_l_or0, jn_and1, jo_ltT, jo_ltF, jo_leT, jo_leF, jo_eqT, jo_eqF, true_or, or_true, true_and, and_true, false_or, or_false, false_and, and_false, if_true, if_false, not_true_eq_false, not_false_eq_true, jx_tab, kX1_takerOf, eX1_takerOf, hh, hl, (c6 c hc).2.2, z5]
  exact h
end TPO
