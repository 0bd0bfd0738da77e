/-! office: the text, as the class reads it -/
theorem jx_upS (M : jx_M) (a b : Nat) (x : Int32) : jx_up M a b x a b = x := by rw [jx_upE, if_pos ⟨rfl, rfl⟩]
theorem jx_upA {M : jx_M} {a b : Nat} {x : Int32} {a' b' : Nat} (h : ¬ a' = a) : jx_up M a b x a' b' = M a' b' := by rw [jx_upE, if_neg (fun z => h z.1)]
theorem jx_upB {M : jx_M} {a b : Nat} {x : Int32} {a' b' : Nat} (h : ¬ b' = b) : jx_up M a b x a' b' = M a' b' := by rw [jx_upE, if_neg (fun z => h z.2)]
/-- the code at a -/
def tf_K (v : Nat → Int32) (n a : Nat) : Int32 := if a < n then v a else -9
/-- a digit from lo to hi at a -/
def tf_dg (v : Nat → Int32) (n a lo hi : Nat) : Option Nat := if nI (48 + lo) ≤ tf_K v n a ∧ tf_K v n a ≤ nI (48 + hi) then some ((tf_K v n a).toNatClampNeg - 48) else none
theorem tf_dg_y {v : Nat → Int32} {n a lo hi x : Nat} (hl : lo ≤ 9) (hh : hi ≤ 9) (h : tf_dg v n a lo hi = some x) : tf_K v n a = nI (48 + x) ∧ lo ≤ x ∧ x ≤ hi ∧ a < n := by
  unfold tf_dg at h
  by_cases c : nI (48 + lo) ≤ tf_K v n a ∧ tf_K v n a ≤ nI (48 + hi)
  · rw [if_pos c] at h
    obtain ⟨c1, c2⟩ := c
    have h := Option.some.inj h
    have u0 : (0 : Int32).toInt = 0 := by decide
    have hp : ¬ tf_K v n a < 0 := by
      rw [fa_le, nI_toInt (by omega)] at c1
      rw [fa_lt, u0]
      omega
    obtain ⟨y, hy, ey⟩ := nI_of hp
    rw [ey, nI_clamp hy] at h
    rw [ey, fa_le, nI_toInt (by omega), nI_toInt hy] at c1
    rw [ey, fa_le, nI_toInt hy, nI_toInt (by omega)] at c2
    refine ⟨?_, by omega, by omega, ?_⟩
    · rw [ey]
      congr 1
      omega
    · by_cases z : a < n
      · exact z
      · rw [tf_K, if_neg z] at hp
        exact absurd (show (-9 : Int32) < 0 by decide) hp
  · rw [if_neg c] at h; cases h
theorem tf_dg_n {v : Nat → Int32} {n a lo hi : Nat} (h : tf_dg v n a lo hi = none) : tf_K v n a < nI (48 + lo) ∨ nI (48 + hi) < tf_K v n a := by
  unfold tf_dg at h
  by_cases c : nI (48 + lo) ≤ tf_K v n a ∧ tf_K v n a ≤ nI (48 + hi)
  · rw [if_pos c] at h; cases h
  · rw [fa_le, fa_le] at c
    rw [fa_lt, fa_lt]
    omega
theorem tf_sub {x : Int32} {lo hi : Nat} (hl : lo ≤ 9) (hh : hi ≤ 9) (h : x < nI (48 + lo) ∨ nI (48 + hi) < x) : x - 48 < nI lo ∨ (¬ x - 48 < nI lo ∧ ¬ x - 48 ≤ nI hi) := by
  by_cases c : x - 48 < nI lo
  · exact Or.inl c
  · refine Or.inr ⟨c, fun z => ?_⟩
    have u0 : (0 : Int32).toInt = 0 := by decide
    rw [fa_lt, nI_toInt (by omega)] at c
    obtain ⟨y, hy, ey⟩ := nI_of (show ¬ x - 48 < 0 by rw [fa_lt, u0]; omega)
    rw [ey, nI_toInt hy] at c
    rw [ey, fa_le, nI_toInt hy, nI_toInt (by omega)] at z
    have ex : x = nI (y + 48) := by
      rw [← jn_add_l, ← ey]
      exact (Int32.sub_add_cancel x 48).symm
    rw [ex, fa_lt, fa_lt, nI_toInt (by omega), nI_toInt (by omega), nI_toInt (by omega)] at h
    omega
/-- the reader at the number a of a text v of n codes, in the sheet at t from i on, into the office at D -/
def tf_c (M : jx_M) (t i n D : Nat) (v : Nat → Int32) (len a : Nat) : Prop := M 2 0 = nI t ∧ M 2 1 = nI D ∧ M 2 2 = nI i ∧ M 2 3 = nI n ∧ M 2 4 = nI a ∧ M t 2 = nI len ∧ (∀ j, j < n → M (t + 1) (i + j) = v j)
def tf_t (t i n D len : Nat) : Prop := jx_cl t = 4 ∧ jx_cl (t + 1) = 9 ∧ jx_sz (t + 1) = 60 ∧ 28 ≤ t ∧ t < 36 ∧ i + n ≤ len ∧ len ≤ 60 ∧ tp_O D
def tf_fr (D : Nat) (M' M : jx_M) : Prop := ∀ x y, x ≠ 2 → ¬ (D ≤ x ∧ x ≤ D + 5) → M' x y = M x y
section TF
variable {d t i n D len : Nat} {v : Nat → Int32} {M : jx_M} {q : Int32 → jx_M → Prop}
theorem tf_c_fr {a a' : Nat} {M' : jx_M} (ht : tf_t t i n D len) (hc : tf_c M t i n D v len a) (e : tf_fr D M' M) (e0 : M' 2 0 = M 2 0) (e1 : M' 2 1 = M 2 1) (e2 : M' 2 2 = M 2 2) (e3 : M' 2 3 = M 2 3) (e4 : M' 2 4 = nI a') : tf_c M' t i n D v len a' := by
  obtain ⟨t1, t2, t3, t4, t5, t6, t7, t8⟩ := ht
  obtain ⟨c1, c2, c3, c4, c5, c6, c7⟩ := hc
  have hD : D = 16 ∨ D = 22 := t8
  refine ⟨e0.trans c1, e1.trans c2, e2.trans c3, e3.trans c4, e4, ?_, fun j hj => ?_⟩
  · rw [e _ _ (by omega) (by omega)]; exact c6
  · rw [e _ _ (by omega) (by omega)]; exact c7 j hj
theorem tf_next {a : Nat} (ht : tf_t t i n D len) (hc : tf_c M t i n D v len a) (ha : a < 2147483648) : jx_I (d + 1) mX6_nextCode [.ref 2] M q ↔ q (tf_K v n a) M := by
  obtain ⟨t1, t2, t3, t4, t5, t6, t7, t8⟩ := ht
  obtain ⟨c1, c2, c3, c4, c5, c6, c7⟩ := hc
  have e0 : jx_rv (M 2 0) = .ref t := by rw [c1]; exact tp_rvn (by omega)
  by_cases h : a < n
  · have hrd := fun d q => tp_read (d := d) (q := q) (M := M) (a := i + a) t1 t2 t3 c6 t7 (by omega)
    have := c7 a h
    rw [tf_K, if_pos h]
    simp (disch := first | assumption | omega | decide) only [jx_qI_a, jx_qV_a, jx_qL_a, jn_lt, jn_le, jn_eq, jn_L, jn_A, jn_N, jn_LL, jn_add, jn_mul, jn_sub, jn_cl, jn_vin, jn_shl1, jn_shr, jn_or, jn_l_or0, jn_and1, jo_ltT, jo_ltF, jo_leT, jo_leF, jo_eqT, jo_eqF, true_or, or_true, true_and, and_true, false_or, or_false, false_and, and_false, if_true, if_false, not_true_eq_false, not_false_eq_true, jx_tab, kX6_nextCode, eX6_nextCode, e0, c3, c4, c5, hrd, this]
  · rw [tf_K, if_neg h]
    simp (disch := first | assumption | omega | decide) only [jx_qI_a, jx_qV_a, jx_qL_a, jn_lt, jn_le, jn_eq, jn_L, jn_A, jn_N, jn_LL, jn_add, jn_mul, jn_sub, jn_cl, jn_vin, jn_shl1, jn_shr, jn_or, jn_l_or0, jn_and1, jo_ltT, jo_ltF, jo_leT, jo_leF, jo_eqT, jo_eqF, true_or, or_true, true_and, and_true, false_or, or_false, false_and, and_false, if_true, if_false, not_true_eq_false, not_false_eq_true, jx_tab, kX6_nextCode, eX6_nextCode, e0, c3, c4, c5]
theorem tf_takes {a : Nat} (ht : tf_t t i n D len) (hc : tf_c M t i n D v len a) (ha : a < 1000) (x : Int32) : jx_I (d + 2) mX6_takes [.ref 2, .int x] M q ↔ (if tf_K v n a = x then q 1 (jx_up M 2 4 (nI (a + 1))) else q 0 M) := by
  have g := fun d q => tf_next (d := d) (q := q) ht hc (by omega)
  have c5 := hc.2.2.2.2.1
  have n1 : nI a + 1 = nI (a + 1) := jn_add_l a 1
  simp (disch := first | assumption | omega | decide) only [jx_qI_a, jx_qV_a, jx_qL_a, jn_LL, true_or, or_true, true_and, and_true, false_or, or_false, false_and, and_false, if_true, if_false, not_true_eq_false, not_false_eq_true, jx_tab, kX6_takes, eX6_takes, g, c5, n1]
theorem tf_digit_y {a lo hi x : Nat} (ht : tf_t t i n D len) (hc : tf_c M t i n D v len a) (ha : a < 1000) (hl : lo ≤ 9) (hh : hi ≤ 9) (h : tf_dg v n a lo hi = some x) : jx_I (d + 2) mX6_takeDigit [.ref 2, .int (nI lo), .int (nI hi)] M q ↔ q (nI x) (jx_up M 2 4 (nI (a + 1))) := by
  have g := fun d q => tf_next (d := d) (q := q) ht hc (by omega)
  have c5 := hc.2.2.2.2.1
  have n1 : nI a + 1 = nI (a + 1) := jn_add_l a 1
  obtain ⟨h1, h2, h3, -⟩ := tf_dg_y hl hh h
  have e48 : 48 + x - 48 = x := by omega
  simp (disch := first | assumption | omega | decide) only [jx_qI_a, jx_qV_a, jx_qL_a, jn_lt, jn_le, jn_eq, jn_L, jn_A, jn_N, jn_LL, jn_add, jn_mul, jn_sub, jn_cl, jn_vin, jn_shl1, jn_shr, jn_or, jn_l_or0, jn_and1, jo_ltT, jo_ltF, jo_leT, jo_leF, jo_eqT, jo_eqF, true_or, or_true, true_and, and_true, false_or, or_false, false_and, and_false, if_true, if_false, not_true_eq_false, not_false_eq_true, jx_tab, kX6_takeDigit, eX6_takeDigit, g, c5, n1, h1, e48]
theorem tf_digit_n {a lo hi : Nat} (ht : tf_t t i n D len) (hc : tf_c M t i n D v len a) (ha : a < 1000) (hl : lo ≤ 9) (hh : hi ≤ 9) (h : tf_dg v n a lo hi = none) : jx_I (d + 2) mX6_takeDigit [.ref 2, .int (nI lo), .int (nI hi)] M q ↔ q (-9) M := by
  have g := fun d q => tf_next (d := d) (q := q) ht hc (by omega)
  rcases tf_sub hl hh (tf_dg_n h) with c | ⟨c1, c2⟩
  · simp (disch := first | assumption | omega | decide) only [jx_qI_a, jx_qV_a, jx_qL_a, jn_LL, true_or, or_true, true_and, and_true, false_or, or_false, false_and, and_false, if_true, if_false, not_true_eq_false, not_false_eq_true, jx_tab, kX6_takeDigit, eX6_takeDigit, g, c]
  · simp (disch := first | assumption | omega | decide) only [jx_qI_a, jx_qV_a, jx_qL_a, jn_LL, true_or, or_true, true_and, and_true, false_or, or_false, false_and, and_false, if_true, if_false, not_true_eq_false, not_false_eq_true, jx_tab, kX6_takeDigit, eX6_takeDigit, g, c1, c2]
end TF
