/-! sizes, kinds, damps by the readings -/
/-- P holds from k on, r times -/
def tp_al (P : Nat → Bool) : Nat → Nat → Bool
  | _, 0 => true
  | k, r + 1 => P k && tp_al P (k + 1) r
/-- the set of those from u on, r of them, for which f is so, with what was in it -/
def tp_fo (f : Nat → Bool) : Nat → Nat → Nat → Nat
  | _, 0, acc => acc
  | u, r + 1, acc => tp_fo f (u + 1) r (acc ||| (if f u = true then 2 ^ u else 0))
def tp_rc (M : jx_M) (k : Nat) : Nat := (M 4 k).toNatClampNeg
def tp_rm (M : jx_M) (k : Nat) : Nat := (M 5 k).toNatClampNeg
def tp_rw (M : jx_M) (k : Nat) : Nat := (M 6 k).toNatClampNeg
def tp_ok (M : jx_M) (s : tp_S) (k : Nat) : Bool := decide (tp_lo s (tp_rc M k) (tp_rm M k) = tp_rw M k)
def tp_rdn (M : jx_M) (s : tp_S) (n : Nat) : Prop := n ≤ 8 ∧ M 3 3 = nI n ∧ M 36 27 = nI n ∧ ∀ k, k < n → tp_rc M k < s 0 1 ∧ tp_rm M k ≤ 9 ∧ tp_rw M k ≤ 99 ∧ M 4 k = nI (tp_rc M k) ∧ M 53 k = nI (tp_rc M k) ∧ M 5 k = nI (tp_rm M k) ∧ M 54 k = nI (tp_rm M k) ∧ M 6 k = nI (tp_rw M k) ∧ M 55 k = nI (tp_rw M k)
theorem tp_rdn_of {M : jx_M} {s : tp_S} (hr : tp_rg s) (h : tp_rd M s) : ∃ n, tp_rdn M s n := by
  obtain ⟨n, h1, h2, h3, h4⟩ := h
  refine ⟨n, h1, h2, h3, fun k hk => ?_⟩
  obtain ⟨c, m, v, g1, g2, g3, g4, g5, g6, g7, g8, g9⟩ := h4 k hk
  have := hr.2.1
  have e1 : tp_rc M k = c := by rw [tp_rc, g4, jn_cl (by omega)]
  have e2 : tp_rm M k = m := by rw [tp_rm, g6, jn_cl (by omega)]
  have e3 : tp_rw M k = v := by rw [tp_rw, g8, jn_cl (by omega)]
  rw [e1, e2, e3]
  exact ⟨g1, g2, g3, g4, g5, g6, g7, g8, g9⟩
theorem jx_up_up (M : jx_M) (k j : Nat) (x y : Int32) : jx_up (jx_up M k j x) k j y = jx_up M k j y := by
  funext a b
  simp only [jx_upE]
  by_cases h : a = k ∧ b = j
  · rw [if_pos h, if_pos h]
  · rw [if_neg h, if_neg h, if_neg h]
theorem jx_up_same {M : jx_M} {k j : Nat} {x : Int32} (h : M k j = x) : jx_up M k j x = M := by
  funext a b
  rw [jx_upE]
  by_cases e : a = k ∧ b = j
  · rw [if_pos e, e.1, e.2, h]
  · rw [if_neg e]
section TPS
variable {d o : Nat} {M N : jx_M} {s : tp_S} {q : Int32 → jx_M → Prop}
/-- the class: N is the memory with a changed office, M the one with the readings -/
theorem tp_bit_l (ho : tp_O o) (hr : tp_rg s) (hC : tp_C N o s) {n u : Nat} (hn : tp_rdn M s n) (e : ∀ a b, 3 ≤ a → a ≤ 6 → N a b = M a b) (hu : u < 31) {Q : jx_Po} : ∀ r k, k + r = n → (jx_Ev (d + 2) mX3_bitIfSo 2 [some (.ref 3), some (.ref o), some (.int (nI u)), some (.int (nI k))] [] N Q ↔ Q [.int (if tp_al (tp_ok M s) k r = true then nI (2 ^ u) else 0)] N)
  | 0, k, h => by
    have h : k = n := h
    subst h
    obtain ⟨n8, n3, -, -⟩ := hn
    have e3 : N 3 3 = nI k := by rw [e 3 3 (by omega) (by omega)]; exact n3
    rw [eX3_bitIfSo_2]
    simp (disch := first | assumption | omega | decide) only [jx_qI_a, jx_qV_a, jx_qL_a, jn_lt, jn_le, jn_eq, jn_L, jn_A, jn_N, jn_LL, jn_add, jn_mul, jn_sub, jn_cl, jn_vin, jn_shl1, jn_shr, jn_or, jn_l_or0, jn_and1, jo_ltT, jo_ltF, jo_leT, jo_leF, jo_eqT, jo_eqF, true_or, or_true, true_and, and_true, false_or, or_false, false_and, and_false, if_true, if_false, not_true_eq_false, not_false_eq_true, jx_tab, eX3_bitIfSo, e3, tp_al]
  | r + 1, k, h => by
    have ih := tp_bit_l ho hr hC hn e hu (Q := Q) r (k + 1) (by omega)
    obtain ⟨n8, n3, -, n4⟩ := id hn
    have e3 : N 3 3 = nI n := by rw [e 3 3 (by omega) (by omega)]; exact n3
    obtain ⟨b1, b2, b3, b4, b5, b6, b7, b8, b9⟩ := n4 k (by omega)
    have f4 : N 4 k = nI (tp_rc M k) := by rw [e 4 k (by omega) (by omega)]; exact b4
    have f5 : N 5 k = nI (tp_rm M k) := by rw [e 5 k (by omega) (by omega)]; exact b6
    have f6 : N 6 k = nI (tp_rw M k) := by rw [e 6 k (by omega) (by omega)]; exact b8
    have hl := fun d q => tp_loudness (d := d) (q := q) ho hr hC b1 (show tp_rm M k < 100 by omega)
    have hlo := tp_lo_le hr b1 b2
    obtain ⟨o0, o1, o2, o3, o4, o5, z1, z2, z3, z4, z5⟩ := tp_Ot ho
    rw [eX3_bitIfSo_2]
    by_cases hk : tp_lo s (tp_rc M k) (tp_rm M k) = tp_rw M k
    · have ek : tp_ok M s k = true := by rw [tp_ok, decide_eq_true_eq]; exact hk
      rw [tp_al, ek, Bool.true_and]
      simp (disch := first | assumption | omega | decide) only [jx_qI_a, jx_qV_a, jx_qL_a, jn_lt, jn_le, jn_eq, jn_L, jn_A, jn_N, jn_LL, jn_add, jn_mul, jn_sub, jn_cl, jn_vin, jn_shl1, jn_shr, jn_or, jn_l_or0, jn_and1, jo_ltT, jo_ltF, jo_leT, jo_leF, jo_eqT, jo_eqF, true_or, or_true, true_and, and_true, false_or, or_false, false_and, and_false, if_true, if_false, not_true_eq_false, not_false_eq_true, jx_tab, eX3_bitIfSo, e3, f4, f5, f6, hl, ih]
    · have ek : tp_ok M s k = false := by rw [tp_ok, decide_eq_false_iff_not]; exact hk
      rw [tp_al, ek, Bool.false_and, if_neg (by decide)]
      simp (disch := first | assumption | omega | decide) only [jx_qI_a, jx_qV_a, jx_qL_a, jn_lt, jn_le, jn_eq, jn_L, jn_A, jn_N, jn_LL, jn_add, jn_mul, jn_sub, jn_cl, jn_vin, jn_shl1, jn_shr, jn_or, jn_l_or0, jn_and1, jo_ltT, jo_ltF, jo_leT, jo_leF, jo_eqT, jo_eqF, true_or, or_true, true_and, and_true, false_or, or_false, false_and, and_false, if_true, if_false, not_true_eq_false, not_false_eq_true, jx_tab, eX3_bitIfSo, e3, f4, f5, f6, hl]
theorem tp_bit (ho : tp_O o) (hr : tp_rg s) (hC : tp_C N o s) {n u : Nat} (hn : tp_rdn M s n) (e : ∀ a b, 3 ≤ a → a ≤ 6 → N a b = M a b) (hu : u < 31) : jx_I (d + 2) mX3_bitIfSo [.ref 3, .ref o, .int (nI u)] N q ↔ q (nI (if tp_al (tp_ok M s) 0 n = true then 2 ^ u else 0)) N := by
  have h := tp_bit_l (d := d) ho hr hC hn e hu (Q := jx_qI q) n 0 (Nat.zero_add n)
  rw [jx_qI_a] at h
  have n0 : (0 : Int32) = nI 0 := fa_lit 0
  simp (disch := first | assumption | omega | decide) only [jx_qI_a, jx_qV_a, jx_qL_a, jn_LL, true_or, or_true, true_and, and_true, false_or, or_false, false_and, and_false, if_true, if_false, not_true_eq_false, not_false_eq_true, jx_tab, kX3_bitIfSo, eX3_bitIfSo]
  rw [n0, h]
  by_cases z : tp_al (tp_ok M s) 0 n = true
  · rw [if_pos z, if_pos z]
  · rw [if_neg z, if_neg z]; exact Iff.rfl
theorem tq_so_l (hr : tp_rg s) (hD : tp_D N s) {n : Nat} (hn : tp_rdn M s n) (e1 : N 36 27 = M 36 27) (e : ∀ a b, 53 ≤ a → a ≤ 55 → N a b = M a b) {Q : jx_Po} : ∀ r k, k + r = n → (jx_Ev (d + 2) mX8_areSo 2 [some (.ref 36), some (.int (nI k))] [] N Q ↔ Q [.int (if tp_al (tp_ok M s) k r = true then 1 else 0)] N)
  | 0, k, h => by
    have h : k = n := h
    subst h
    obtain ⟨n8, -, n3, -⟩ := hn
    rw [eX8_areSo_2]
    simp (disch := first | assumption | omega | decide) only [jx_qI_a, jx_qV_a, jx_qL_a, jn_lt, jn_le, jn_eq, jn_L, jn_A, jn_N, jn_LL, jn_add, jn_mul, jn_sub, jn_cl, jn_vin, jn_shl1, jn_shr, jn_or, jn_l_or0, jn_and1, jo_ltT, jo_ltF, jo_leT, jo_leF, jo_eqT, jo_eqF, true_or, or_true, true_and, and_true, false_or, or_false, false_and, and_false, if_true, if_false, not_true_eq_false, not_false_eq_true, jx_tab, eX8_areSo, e1, n3, tp_al]
  | r + 1, k, h => by
    have ih := tq_so_l hr hD hn e1 e (Q := Q) r (k + 1) (by omega)
    obtain ⟨n8, -, n3, n4⟩ := id hn
    obtain ⟨b1, b2, b3, b4, b5, b6, b7, b8, b9⟩ := n4 k (by omega)
    have f4 : N 53 k = nI (tp_rc M k) := by rw [e 53 k (by omega) (by omega)]; exact b5
    have f5 : N 54 k = nI (tp_rm M k) := by rw [e 54 k (by omega) (by omega)]; exact b7
    have f6 : N 55 k = nI (tp_rw M k) := by rw [e 55 k (by omega) (by omega)]; exact b9
    have hl := fun d q => tq_loudOf (d := d) (q := q) hr hD b1 (show tp_rm M k < 100 by omega)
    have hlo := tp_lo_le hr b1 b2
    rw [eX8_areSo_2]
    by_cases hk : tp_lo s (tp_rc M k) (tp_rm M k) = tp_rw M k
    · have ek : tp_ok M s k = true := by rw [tp_ok, decide_eq_true_eq]; exact hk
      rw [tp_al, ek, Bool.true_and]
      simp (disch := first | assumption | omega | decide) only [jx_qI_a, jx_qV_a, jx_qL_a, jn_lt, jn_le, jn_eq, jn_L, jn_A, jn_N, jn_LL, jn_add, jn_mul, jn_sub, jn_cl, jn_vin, jn_shl1, jn_shr, jn_or, jn_l_or0, jn_and1, jo_ltT, jo_ltF, jo_leT, jo_leF, jo_eqT, jo_eqF, true_or, or_true, true_and, and_true, false_or, or_false, false_and, and_false, if_true, if_false, not_true_eq_false, not_false_eq_true, jx_tab, eX8_areSo, e1, n3, f4, f5, f6, hl, ih]
    · have ek : tp_ok M s k = false := by rw [tp_ok, decide_eq_false_iff_not]; exact hk
      rw [tp_al, ek, Bool.false_and, if_neg (by decide)]
      simp (disch := first | assumption | omega | decide) only [jx_qI_a, jx_qV_a, jx_qL_a, jn_lt, jn_le, jn_eq, jn_L, jn_A, jn_N, jn_LL, jn_add, jn_mul, jn_sub, jn_cl, jn_vin, jn_shl1, jn_shr, jn_or, jn_l_or0, jn_and1, jo_ltT, jo_ltF, jo_leT, jo_leF, jo_eqT, jo_eqF, true_or, or_true, true_and, and_true, false_or, or_false, false_and, and_false, if_true, if_false, not_true_eq_false, not_false_eq_true, jx_tab, eX8_areSo, e1, n3, f4, f5, f6, hl]
theorem tq_so (hr : tp_rg s) (hD : tp_D N s) {n : Nat} (hn : tp_rdn M s n) (e1 : N 36 27 = M 36 27) (e : ∀ a b, 53 ≤ a → a ≤ 55 → N a b = M a b) : jx_I (d + 2) mX8_areSo [.ref 36] N q ↔ q (if tp_al (tp_ok M s) 0 n = true then 1 else 0) N := by
  have h := tq_so_l (d := d) hr hD hn e1 e (Q := jx_qI q) n 0 (Nat.zero_add n)
  rw [jx_qI_a] at h
  have n0 : (0 : Int32) = nI 0 := fa_lit 0
  simp (disch := first | assumption | omega | decide) only [jx_qI_a, jx_qV_a, jx_qL_a, jn_LL, true_or, or_true, true_and, and_true, false_or, or_false, false_and, and_false, if_true, if_false, not_true_eq_false, not_false_eq_true, jx_tab, kX8_areSo, eX8_areSo]
  exact h
/-- sizes -/
theorem tp_rg_z {c v : Nat} (h : tp_rg s) (h1 : 1 ≤ v) (hv : v ≤ 9) : tp_rg (tp_su s 4 c v) := by
  obtain ⟨r1, r2, r3, r4, r5, r6⟩ := h
  refine ⟨r1, r2, r3, r4, fun a ha => r5 a ha, fun a ha => ⟨(r6 a ha).1, ?_, ?_, (r6 a ha).2.2.2⟩⟩
  · by_cases e : a = c
    · simp [tp_su, e, h1]
    · simp [tp_su, e]; exact (r6 a ha).2.1
  · by_cases e : a = c
    · simp [tp_su, e, hv]
    · simp [tp_su, e]; exact (r6 a ha).2.2.1
theorem tp_rg_k {c v : Nat} (h : tp_rg s) (hv : v ≤ 2) : tp_rg (tp_su s 3 c v) := by
  obtain ⟨r1, r2, r3, r4, r5, r6⟩ := h
  refine ⟨r1, r2, r3, r4, fun a ha => r5 a ha, fun a ha => ⟨?_, (r6 a ha).2⟩⟩
  by_cases e : a = c
  · simp [tp_su, e, hv]
  · simp [tp_su, e]; exact (r6 a ha).1
theorem tp_C_z {c v : Nat} (h : tp_C M o s) : tp_C (jx_up M (o + 4) c (nI v)) o (tp_su s 4 c v) := by
  obtain ⟨c1, c2, c3, c4, c5, c6⟩ := h
  refine ⟨by simp [jx_upE, tp_su, c1], by simp [jx_upE, tp_su, c2], by simp [jx_upE, tp_su, c3], by simp [jx_upE, tp_su, c4], fun a ha => ⟨by simp [jx_upE, tp_su, (c5 a ha).1], by simp [jx_upE, tp_su, (c5 a ha).2]⟩, fun a ha => ⟨by simp [jx_upE, tp_su, (c6 a ha).1], ?_, by simp [jx_upE, tp_su, (c6 a ha).2.2]⟩⟩
  by_cases e : a = c
  · simp [jx_upE, tp_su, e]
  · simp [jx_upE, tp_su, e]; exact (c6 a ha).2.1
theorem tp_D_z {c v : Nat} (h : tp_D M s) : tp_D (jx_up M 43 c (nI v)) (tp_su s 4 c v) := by
  obtain ⟨c1, c2, c3, c4, c5, c6⟩ := h
  refine ⟨by simp [jx_upE, tp_su, c1], by simp [jx_upE, tp_su, c2], by simp [jx_upE, tp_su, c3], by simp [jx_upE, tp_su, c4], fun a ha => ⟨by simp [jx_upE, tp_su, (c5 a ha).1], by simp [jx_upE, tp_su, (c5 a ha).2]⟩, fun a ha => ⟨by simp [jx_upE, tp_su, (c6 a ha).1], ?_, by simp [jx_upE, tp_su, (c6 a ha).2.2]⟩⟩
  by_cases e : a = c
  · simp [jx_upE, tp_su, e]
  · simp [jx_upE, tp_su, e]; exact (c6 a ha).2.1
theorem tp_C_k {c v : Nat} (h : tp_C M o s) : tp_C (jx_up M (o + 3) c (nI v)) o (tp_su s 3 c v) := by
  obtain ⟨c1, c2, c3, c4, c5, c6⟩ := h
  refine ⟨by simp [jx_upE, tp_su, c1], by simp [jx_upE, tp_su, c2], by simp [jx_upE, tp_su, c3], by simp [jx_upE, tp_su, c4], fun a ha => ⟨by simp [jx_upE, tp_su, (c5 a ha).1], by simp [jx_upE, tp_su, (c5 a ha).2]⟩, fun a ha => ⟨?_, by simp [jx_upE, tp_su, (c6 a ha).2.1], by simp [jx_upE, tp_su, (c6 a ha).2.2]⟩⟩
  by_cases e : a = c
  · simp [jx_upE, tp_su, e]
  · simp [jx_upE, tp_su, e]; exact (c6 a ha).1
theorem tp_D_k {c v : Nat} (h : tp_D M s) : tp_D (jx_up M 42 c (nI v)) (tp_su s 3 c v) := by
  obtain ⟨c1, c2, c3, c4, c5, c6⟩ := h
  refine ⟨by simp [jx_upE, tp_su, c1], by simp [jx_upE, tp_su, c2], by simp [jx_upE, tp_su, c3], by simp [jx_upE, tp_su, c4], fun a ha => ⟨by simp [jx_upE, tp_su, (c5 a ha).1], by simp [jx_upE, tp_su, (c5 a ha).2]⟩, fun a ha => ⟨?_, by simp [jx_upE, tp_su, (c6 a ha).2.1], by simp [jx_upE, tp_su, (c6 a ha).2.2]⟩⟩
  by_cases e : a = c
  · simp [jx_upE, tp_su, e]
  · simp [jx_upE, tp_su, e]; exact (c6 a ha).1
theorem tp_rdn_su {n i j v : Nat} (hi : i ≠ 0 ∨ j ≠ 1) (h : tp_rdn M s n) : tp_rdn M (tp_su s i j v) n := by
  obtain ⟨h1, h2, h3, h4⟩ := h
  refine ⟨h1, h2, h3, fun k hk => ?_⟩
  have e : tp_su s i j v 0 1 = s 0 1 := by rw [tp_su, if_neg (by omega)]
  rw [e]
  exact h4 k hk
theorem tp_sizes_l (ho : tp_O o) (hr : tp_rg s) (e6 : jx_rv (M 0 6) = .ref o) (hC : tp_C M o s) {n c : Nat} (hn : tp_rdn M s n) (hc : c < s 0 1) {Q : jx_Po} : ∀ r u acc w, 1 ≤ u → u + r = 10 → (jx_Ev (d + 20) mX7_sizes 28 [some (.ref 0), some (.int (nI c)), some (.int (nI (s 4 c))), some (.int (nI acc)), some (.int (nI u))] [] (jx_up M (o + 4) c w) Q ↔ Q [.int (nI (tp_fo (fun u => tp_al (tp_ok M (tp_su s 4 c u)) 0 n) u r acc))] M)
  | 0, u, acc, w, h1, h => by
    have h : u = 10 := h
    subst h
    have hoo : o = 16 ∨ o = 22 := ho
    obtain ⟨o0, o1, o2, o3, o4, o5, z1, z2, z3, z4, z5⟩ := tp_Ot ho
    obtain ⟨r1, r2, r3, r4, r5, r6⟩ := id hr
    have e6' : jx_rv (jx_up M (o + 4) c w 0 6) = .ref o := by rw [jx_upE, if_neg (by omega)]; exact e6
    have e7 : jx_up M (o + 4) c (nI (s 4 c)) = M := jx_up_same (hC.2.2.2.2.2 c hc).2.1
    rw [eX7_sizes_28]
    simp (disch := first | assumption | omega | decide) only [jx_qI_a, jx_qV_a, jx_qL_a, jn_lt, jn_le, jn_eq, jn_L, jn_A, jn_N, jn_LL, jn_add, jn_mul, jn_sub, jn_cl, jn_vin, jn_shl1, jn_shr, jn_or, jn_l_or0, jn_and1, jo_ltT, jo_ltF, jo_leT, jo_leF, jo_eqT, jo_eqF, true_or, or_true, true_and, and_true, false_or, or_false, false_and, and_false, if_true, if_false, not_true_eq_false, not_false_eq_true, jx_tab, eX7_sizes, e6', z4, jx_up_up, e7, tp_fo]
  | r + 1, u, acc, w, h1, h => by
    have ih := tp_sizes_l ho hr e6 hC hn hc (Q := Q) r (u + 1) (acc ||| (if tp_al (tp_ok M (tp_su s 4 c u)) 0 n = true then 2 ^ u else 0)) (nI u) (by omega) (by omega)
    have hoo : o = 16 ∨ o = 22 := ho
    obtain ⟨o0, o1, o2, o3, o4, o5, z1, z2, z3, z4, z5⟩ := tp_Ot ho
    obtain ⟨r1, r2, r3, r4, r5, r6⟩ := id hr
    have e6' : ∀ w, jx_rv (jx_up M (o + 4) c w 0 6) = .ref o := fun w => by rw [jx_upE, if_neg (by omega)]; exact e6
    have g := fun d q => tp_bit (d := d) (q := q) (u := u) ho (tp_rg_z (c := c) hr h1 (show u ≤ 9 by omega)) (tp_C_z (c := c) (v := u) hC) (tp_rdn_su (i := 4) (j := c) (v := u) (Or.inl (by decide)) hn) (fun a b q1 q2 => by rw [jx_upE, if_neg (by omega)]) (by omega)
    rw [eX7_sizes_28, tp_fo]
    simp (disch := first | assumption | omega | decide) only [jx_qI_a, jx_qV_a, jx_qL_a, jn_lt, jn_le, jn_eq, jn_L, jn_A, jn_N, jn_LL, jn_add, jn_mul, jn_sub, jn_cl, jn_vin, jn_shl1, jn_shr, jn_or, jn_l_or0, jn_and1, jo_ltT, jo_ltF, jo_leT, jo_leF, jo_eqT, jo_eqF, true_or, or_true, true_and, and_true, false_or, or_false, false_and, and_false, if_true, if_false, not_true_eq_false, not_false_eq_true, jx_tab, eX7_sizes, e6', z4, jx_up_up, g, ih]
theorem tq_sizes_l (hr : tp_rg s) (hD : tp_D M s) {n c : Nat} (hn : tp_rdn M s n) (hc : c < s 0 1) {Q : jx_Po} : ∀ r u acc w, 1 ≤ u → u + r = 10 → (jx_Ev (d + 20) mX8_sizes 22 [some (.ref 36), some (.int (nI c)), some (.int (nI (s 4 c))), some (.int (nI acc)), some (.int (nI u))] [] (jx_up M 43 c w) Q ↔ Q [.int (nI (tp_fo (fun u => tp_al (tp_ok M (tp_su s 4 c u)) 0 n) u r acc))] M)
  | 0, u, acc, w, h1, h => by
    have h : u = 10 := h
    subst h
    obtain ⟨r1, r2, r3, r4, r5, r6⟩ := id hr
    have e7 : jx_up M 43 c (nI (s 4 c)) = M := jx_up_same (hD.2.2.2.2.2 c hc).2.1
    rw [eX8_sizes_22]
    simp (disch := first | assumption | omega | decide) only [jx_qI_a, jx_qV_a, jx_qL_a, jn_lt, jn_le, jn_eq, jn_L, jn_A, jn_N, jn_LL, jn_add, jn_mul, jn_sub, jn_cl, jn_vin, jn_shl1, jn_shr, jn_or, jn_l_or0, jn_and1, jo_ltT, jo_ltF, jo_leT, jo_leF, jo_eqT, jo_eqF, true_or, or_true, true_and, and_true, false_or, or_false, false_and, and_false, if_true, if_false, not_true_eq_false, not_false_eq_true, jx_tab, eX8_sizes, jx_up_up, e7, tp_fo]
  | r + 1, u, acc, w, h1, h => by
    have ih := tq_sizes_l hr hD hn hc (Q := Q) r (u + 1) (acc ||| (if tp_al (tp_ok M (tp_su s 4 c u)) 0 n = true then 2 ^ u else 0)) (nI u) (by omega) (by omega)
    obtain ⟨r1, r2, r3, r4, r5, r6⟩ := id hr
    have g := fun d q => tq_so (d := d) (q := q) (tp_rg_z (c := c) hr h1 (show u ≤ 9 by omega)) (tp_D_z (c := c) (v := u) hD) (tp_rdn_su (i := 4) (j := c) (v := u) (Or.inl (by decide)) hn) (by rw [jx_upE, if_neg (by omega)]) (fun a b q1 q2 => by rw [jx_upE, if_neg (by omega)])
    rw [eX8_sizes_22, tp_fo]
    by_cases z : tp_al (tp_ok M (tp_su s 4 c u)) 0 n = true
    · rw [if_pos z] at ih g ⊢
      simp (disch := first | assumption | omega | decide) only [jx_qI_a, jx_qV_a, jx_qL_a, jn_lt, jn_le, jn_eq, jn_L, jn_A, jn_N, jn_LL, jn_add, jn_mul, jn_sub, jn_cl, jn_vin, jn_shl1, jn_shr, jn_or, jn_l_or0, jn_and1, jo_ltT, jo_ltF, jo_leT, jo_leF, jo_eqT, jo_eqF, true_or, or_true, true_and, and_true, false_or, or_false, false_and, and_false, if_true, if_false, not_true_eq_false, not_false_eq_true, jx_tab, eX8_sizes, jx_up_up, g, ih]
    · rw [if_neg z, Nat.or_zero] at ih ⊢
      rw [if_neg z] at g
      simp (disch := first | assumption | omega | decide) only [jx_qI_a, jx_qV_a, jx_qL_a, jn_lt, jn_le, jn_eq, jn_L, jn_A, jn_N, jn_LL, jn_add, jn_mul, jn_sub, jn_cl, jn_vin, jn_shl1, jn_shr, jn_or, jn_l_or0, jn_and1, jo_ltT, jo_ltF, jo_leT, jo_leF, jo_eqT, jo_eqF, true_or, or_true, true_and, and_true, false_or, or_false, false_and, and_false, if_true, if_false, not_true_eq_false, not_false_eq_true, jx_tab, eX8_sizes, jx_up_up, g, ih, jn_or_0]
theorem op_sizes (h : tp_I M) (a : Int32) : jx_I (d + 20) mX7_sizes [.ref 0, .int a] M (fun r M1 => jx_I (d + 20) mX8_sizes [.ref 36, .int a] M1 (fun r2 M2 => r = r2 ∧ tp_I M2)) := by
  have hI := h
  obtain ⟨s, o, ho, h06, h07, hr, hC, hD, hf, ht, hrd, hsh⟩ := h
  have e6 : jx_rv (M 0 6) = .ref o := by rw [h06]; exact tp_rvn (by rcases ho with rfl | rfl <;> decide)
  obtain ⟨n, hn'⟩ := tp_rdn_of hr hrd
  obtain ⟨o0, o1, o2, o3, o4, o5, z1, z2, z3, z4, z5⟩ := tp_Ot ho
  obtain ⟨r1, r2, r3, r4, r5, r6⟩ := id hr
  have n0 : (0 : Int32) = nI 0 := fa_lit 0
  have n1 : (1 : Int32) = nI 1 := fa_lit 1
  rcases jx_ix a (n := s 0 1) (by omega) with hn | ⟨p, hp, rfl⟩
  · have g1 := fun d q => tp_hasClap_n (d := d) (q := q) ho hr hC hn
    have g2 := fun d q => tq_isClap_n (d := d) (q := q) hr hD hn
    have hx : ∀ q : Int32 → jx_M → Prop, q (-1) M → jx_I (d + 20) mX7_sizes [.ref 0, .int a] M q := by
      intro q hq
      simp (disch := first | assumption | omega | decide) only [jx_qI_a, jx_qV_a, jx_qL_a, jn_LL, true_or, or_true, true_and, and_true, false_or, or_false, false_and, and_false, if_true, if_false, not_true_eq_false, not_false_eq_true, jx_tab, kX7_sizes, eX7_sizes, e6, g1, hq]
    have hm : ∀ q : Int32 → jx_M → Prop, q (-1) M → jx_I (d + 20) mX8_sizes [.ref 36, .int a] M q := by
      intro q hq
      simp (disch := first | assumption | omega | decide) only [jx_qI_a, jx_qV_a, jx_qL_a, jn_LL, true_or, or_true, true_and, and_true, false_or, or_false, false_and, and_false, if_true, if_false, not_true_eq_false, not_false_eq_true, jx_tab, kX8_sizes, eX8_sizes, g2, hq]
    exact hx _ (hm _ ⟨rfl, hI⟩)
  · have g1 := fun d q => tp_hasClap_y (d := d) (q := q) ho hr hC hp
    have g2 := fun d q => tq_isClap_y (d := d) (q := q) hr hD hp
    have k4 := (hC.2.2.2.2.2 p hp).2.1
    have k5 := (hD.2.2.2.2.2 p hp).2.1
    have hx : ∀ q : Int32 → jx_M → Prop, q (nI (tp_fo (fun u => tp_al (tp_ok M (tp_su s 4 p u)) 0 n) 1 9 0)) M → jx_I (d + 20) mX7_sizes [.ref 0, .int (nI p)] M q := by
      intro q hq
      have g := tp_sizes_l (d := d) ho hr e6 hC hn' hp (Q := jx_qI q) 9 1 0 (nI (s 4 p)) (by decide) rfl
      rw [jx_up_same k4, jx_qI_a] at g
      simp (disch := first | assumption | omega | decide) only [jx_qI_a, jx_qV_a, jx_qL_a, jn_lt, jn_le, jn_eq, jn_L, jn_A, jn_N, jn_LL, jn_add, jn_mul, jn_sub, jn_cl, jn_vin, jn_shl1, jn_shr, jn_or, jn_l_or0, jn_and1, jo_ltT, jo_ltF, jo_leT, jo_leF, jo_eqT, jo_eqF, true_or, or_true, true_and, and_true, false_or, or_false, false_and, and_false, if_true, if_false, not_true_eq_false, not_false_eq_true, jx_tab, kX7_sizes, eX7_sizes, e6, g1, k4, z4]
      rw [n0, n1]
      exact g.mpr hq
    have hm : ∀ q : Int32 → jx_M → Prop, q (nI (tp_fo (fun u => tp_al (tp_ok M (tp_su s 4 p u)) 0 n) 1 9 0)) M → jx_I (d + 20) mX8_sizes [.ref 36, .int (nI p)] M q := by
      intro q hq
      have g := tq_sizes_l (d := d) hr hD hn' hp (Q := jx_qI q) 9 1 0 (nI (s 4 p)) (by decide) rfl
      rw [jx_up_same k5, jx_qI_a] at g
      simp (disch := first | assumption | omega | decide) only [jx_qI_a, jx_qV_a, jx_qL_a, jn_lt, jn_le, jn_eq, jn_L, jn_A, jn_N, jn_LL, jn_add, jn_mul, jn_sub, jn_cl, jn_vin, jn_shl1, jn_shr, jn_or, jn_l_or0, jn_and1, jo_ltT, jo_ltF, jo_leT, jo_leF, jo_eqT, jo_eqF, true_or, or_true, true_and, and_true, false_or, or_false, false_and, and_false, if_true, if_false, not_true_eq_false, not_false_eq_true, jx_tab, kX8_sizes, eX8_sizes, g2, k5]
      rw [n0, n1]
      exact g.mpr hq
    exact hx _ (hm _ ⟨rfl, hI⟩)
theorem tp_kinds_l (ho : tp_O o) (hr : tp_rg s) (e6 : jx_rv (M 0 6) = .ref o) (hC : tp_C M o s) {n c : Nat} (hn : tp_rdn M s n) (hc : c < s 0 1) {Q : jx_Po} : ∀ r u acc w, u + r = 3 → (jx_Ev (d + 20) mX7_kinds 28 [some (.ref 0), some (.int (nI c)), some (.int (nI (s 3 c))), some (.int (nI acc)), some (.int (nI u))] [] (jx_up M (o + 3) c w) Q ↔ Q [.int (nI (tp_fo (fun u => tp_al (tp_ok M (tp_su s 3 c u)) 0 n) u r acc))] M)
  | 0, u, acc, w, h => by
    have h : u = 3 := h
    subst h
    have hoo : o = 16 ∨ o = 22 := ho
    obtain ⟨o0, o1, o2, o3, o4, o5, z1, z2, z3, z4, z5⟩ := tp_Ot ho
    obtain ⟨r1, r2, r3, r4, r5, r6⟩ := id hr
    have e6' : jx_rv (jx_up M (o + 3) c w 0 6) = .ref o := by rw [jx_upE, if_neg (by omega)]; exact e6
    have e7 : jx_up M (o + 3) c (nI (s 3 c)) = M := jx_up_same (hC.2.2.2.2.2 c hc).1
    rw [eX7_kinds_28]
    simp (disch := first | assumption | omega | decide) only [jx_qI_a, jx_qV_a, jx_qL_a, jn_lt, jn_le, jn_eq, jn_L, jn_A, jn_N, jn_LL, jn_add, jn_mul, jn_sub, jn_cl, jn_vin, jn_shl1, jn_shr, jn_or, jn_l_or0, jn_and1, jo_ltT, jo_ltF, jo_leT, jo_leF, jo_eqT, jo_eqF, true_or, or_true, true_and, and_true, false_or, or_false, false_and, and_false, if_true, if_false, not_true_eq_false, not_false_eq_true, jx_tab, eX7_kinds, e6', z3, jx_up_up, e7, tp_fo]
  | r + 1, u, acc, w, h => by
    have ih := tp_kinds_l ho hr e6 hC hn hc (Q := Q) r (u + 1) (acc ||| (if tp_al (tp_ok M (tp_su s 3 c u)) 0 n = true then 2 ^ u else 0)) (nI u) (by omega)
    have hoo : o = 16 ∨ o = 22 := ho
    obtain ⟨o0, o1, o2, o3, o4, o5, z1, z2, z3, z4, z5⟩ := tp_Ot ho
    obtain ⟨r1, r2, r3, r4, r5, r6⟩ := id hr
    have e6' : ∀ w, jx_rv (jx_up M (o + 3) c w 0 6) = .ref o := fun w => by rw [jx_upE, if_neg (by omega)]; exact e6
    have g := fun d q => tp_bit (d := d) (q := q) (u := u) ho (tp_rg_k (c := c) hr (show u ≤ 2 by omega)) (tp_C_k (c := c) (v := u) hC) (tp_rdn_su (i := 3) (j := c) (v := u) (Or.inl (by decide)) hn) (fun a b q1 q2 => by rw [jx_upE, if_neg (by omega)]) (by omega)
    rw [eX7_kinds_28, tp_fo]
    simp (disch := first | assumption | omega | decide) only [jx_qI_a, jx_qV_a, jx_qL_a, jn_lt, jn_le, jn_eq, jn_L, jn_A, jn_N, jn_LL, jn_add, jn_mul, jn_sub, jn_cl, jn_vin, jn_shl1, jn_shr, jn_or, jn_l_or0, jn_and1, jo_ltT, jo_ltF, jo_leT, jo_leF, jo_eqT, jo_eqF, true_or, or_true, true_and, and_true, false_or, or_false, false_and, and_false, if_true, if_false, not_true_eq_false, not_false_eq_true, jx_tab, eX7_kinds, e6', z3, jx_up_up, g, ih]
theorem tq_kinds_l (hr : tp_rg s) (hD : tp_D M s) {n c : Nat} (hn : tp_rdn M s n) (hc : c < s 0 1) {Q : jx_Po} : ∀ r u acc w, u + r = 3 → (jx_Ev (d + 20) mX8_kinds 22 [some (.ref 36), some (.int (nI c)), some (.int (nI (s 3 c))), some (.int (nI acc)), some (.int (nI u))] [] (jx_up M 42 c w) Q ↔ Q [.int (nI (tp_fo (fun u => tp_al (tp_ok M (tp_su s 3 c u)) 0 n) u r acc))] M)
  | 0, u, acc, w, h => by
    have h : u = 3 := h
    subst h
    obtain ⟨r1, r2, r3, r4, r5, r6⟩ := id hr
    have e7 : jx_up M 42 c (nI (s 3 c)) = M := jx_up_same (hD.2.2.2.2.2 c hc).1
    rw [eX8_kinds_22]
    simp (disch := first | assumption | omega | decide) only [jx_qI_a, jx_qV_a, jx_qL_a, jn_lt, jn_le, jn_eq, jn_L, jn_A, jn_N, jn_LL, jn_add, jn_mul, jn_sub, jn_cl, jn_vin, jn_shl1, jn_shr, jn_or, jn_l_or0, jn_and1, jo_ltT, jo_ltF, jo_leT, jo_leF, jo_eqT, jo_eqF, true_or, or_true, true_and, and_true, false_or, or_false, false_and, and_false, if_true, if_false, not_true_eq_false, not_false_eq_true, jx_tab, eX8_kinds, jx_up_up, e7, tp_fo]
  | r + 1, u, acc, w, h => by
    have ih := tq_kinds_l hr hD hn hc (Q := Q) r (u + 1) (acc ||| (if tp_al (tp_ok M (tp_su s 3 c u)) 0 n = true then 2 ^ u else 0)) (nI u) (by omega)
    obtain ⟨r1, r2, r3, r4, r5, r6⟩ := id hr
    have g := fun d q => tq_so (d := d) (q := q) (tp_rg_k (c := c) hr (show u ≤ 2 by omega)) (tp_D_k (c := c) (v := u) hD) (tp_rdn_su (i := 3) (j := c) (v := u) (Or.inl (by decide)) hn) (by rw [jx_upE, if_neg (by omega)]) (fun a b q1 q2 => by rw [jx_upE, if_neg (by omega)])
    rw [eX8_kinds_22, tp_fo]
    by_cases z : tp_al (tp_ok M (tp_su s 3 c u)) 0 n = true
    · rw [if_pos z] at ih g ⊢
      simp (disch := first | assumption | omega | decide) only [jx_qI_a, jx_qV_a, jx_qL_a, jn_lt, jn_le, jn_eq, jn_L, jn_A, jn_N, jn_LL, jn_add, jn_mul, jn_sub, jn_cl, jn_vin, jn_shl1, jn_shr, jn_or, jn_l_or0, jn_and1, jo_ltT, jo_ltF, jo_leT, jo_leF, jo_eqT, jo_eqF, true_or, or_true, true_and, and_true, false_or, or_false, false_and, and_false, if_true, if_false, not_true_eq_false, not_false_eq_true, jx_tab, eX8_kinds, jx_up_up, g, ih]
    · rw [if_neg z, Nat.or_zero] at ih ⊢
      rw [if_neg z] at g
      simp (disch := first | assumption | omega | decide) only [jx_qI_a, jx_qV_a, jx_qL_a, jn_lt, jn_le, jn_eq, jn_L, jn_A, jn_N, jn_LL, jn_add, jn_mul, jn_sub, jn_cl, jn_vin, jn_shl1, jn_shr, jn_or, jn_l_or0, jn_and1, jo_ltT, jo_ltF, jo_leT, jo_leF, jo_eqT, jo_eqF, true_or, or_true, true_and, and_true, false_or, or_false, false_and, and_false, if_true, if_false, not_true_eq_false, not_false_eq_true, jx_tab, eX8_kinds, jx_up_up, g, ih, jn_or_0]
theorem op_kinds (h : tp_I M) (a : Int32) : jx_I (d + 20) mX7_kinds [.ref 0, .int a] M (fun r M1 => jx_I (d + 20) mX8_kinds [.ref 36, .int a] M1 (fun r2 M2 => r = r2 ∧ tp_I M2)) := by
  have hI := h
  obtain ⟨s, o, ho, h06, h07, hr, hC, hD, hf, ht, hrd, hsh⟩ := h
  have e6 : jx_rv (M 0 6) = .ref o := by rw [h06]; exact tp_rvn (by rcases ho with rfl | rfl <;> decide)
  obtain ⟨n, hn'⟩ := tp_rdn_of hr hrd
  obtain ⟨o0, o1, o2, o3, o4, o5, z1, z2, z3, z4, z5⟩ := tp_Ot ho
  obtain ⟨r1, r2, r3, r4, r5, r6⟩ := id hr
  have n0 : (0 : Int32) = nI 0 := fa_lit 0
  have n1 : (1 : Int32) = nI 1 := fa_lit 1
  rcases jx_ix a (n := s 0 1) (by omega) with hn | ⟨p, hp, rfl⟩
  · have g1 := fun d q => tp_hasClap_n (d := d) (q := q) ho hr hC hn
    have g2 := fun d q => tq_isClap_n (d := d) (q := q) hr hD hn
    have hx : ∀ q : Int32 → jx_M → Prop, q (-1) M → jx_I (d + 20) mX7_kinds [.ref 0, .int a] M q := by
      intro q hq
      simp (disch := first | assumption | omega | decide) only [jx_qI_a, jx_qV_a, jx_qL_a, jn_LL, true_or, or_true, true_and, and_true, false_or, or_false, false_and, and_false, if_true, if_false, not_true_eq_false, not_false_eq_true, jx_tab, kX7_kinds, eX7_kinds, e6, g1, hq]
    have hm : ∀ q : Int32 → jx_M → Prop, q (-1) M → jx_I (d + 20) mX8_kinds [.ref 36, .int a] M q := by
      intro q hq
      simp (disch := first | assumption | omega | decide) only [jx_qI_a, jx_qV_a, jx_qL_a, jn_LL, true_or, or_true, true_and, and_true, false_or, or_false, false_and, and_false, if_true, if_false, not_true_eq_false, not_false_eq_true, jx_tab, kX8_kinds, eX8_kinds, g2, hq]
    exact hx _ (hm _ ⟨rfl, hI⟩)
  · have g1 := fun d q => tp_hasClap_y (d := d) (q := q) ho hr hC hp
    have g2 := fun d q => tq_isClap_y (d := d) (q := q) hr hD hp
    have k4 := (hC.2.2.2.2.2 p hp).1
    have k5 := (hD.2.2.2.2.2 p hp).1
    have hx : ∀ q : Int32 → jx_M → Prop, q (nI (tp_fo (fun u => tp_al (tp_ok M (tp_su s 3 p u)) 0 n) 0 3 0)) M → jx_I (d + 20) mX7_kinds [.ref 0, .int (nI p)] M q := by
      intro q hq
      have g := tp_kinds_l (d := d) ho hr e6 hC hn' hp (Q := jx_qI q) 3 0 0 (nI (s 3 p)) rfl
      rw [jx_up_same k4, jx_qI_a] at g
      simp (disch := first | assumption | omega | decide) only [jx_qI_a, jx_qV_a, jx_qL_a, jn_lt, jn_le, jn_eq, jn_L, jn_A, jn_N, jn_LL, jn_add, jn_mul, jn_sub, jn_cl, jn_vin, jn_shl1, jn_shr, jn_or, jn_l_or0, jn_and1, jo_ltT, jo_ltF, jo_leT, jo_leF, jo_eqT, jo_eqF, true_or, or_true, true_and, and_true, false_or, or_false, false_and, and_false, if_true, if_false, not_true_eq_false, not_false_eq_true, jx_tab, kX7_kinds, eX7_kinds, e6, g1, k4, z3]
      rw [n0]
      exact g.mpr hq
    have hm : ∀ q : Int32 → jx_M → Prop, q (nI (tp_fo (fun u => tp_al (tp_ok M (tp_su s 3 p u)) 0 n) 0 3 0)) M → jx_I (d + 20) mX8_kinds [.ref 36, .int (nI p)] M q := by
      intro q hq
      have g := tq_kinds_l (d := d) hr hD hn' hp (Q := jx_qI q) 3 0 0 (nI (s 3 p)) rfl
      rw [jx_up_same k5, jx_qI_a] at g
      simp (disch := first | assumption | omega | decide) only [jx_qI_a, jx_qV_a, jx_qL_a, jn_lt, jn_le, jn_eq, jn_L, jn_A, jn_N, jn_LL, jn_add, jn_mul, jn_sub, jn_cl, jn_vin, jn_shl1, jn_shr, jn_or, jn_l_or0, jn_and1, jo_ltT, jo_ltF, jo_leT, jo_leF, jo_eqT, jo_eqF, true_or, or_true, true_and, and_true, false_or, or_false, false_and, and_false, if_true, if_false, not_true_eq_false, not_false_eq_true, jx_tab, kX8_kinds, eX8_kinds, g2, k5]
      rw [n0]
      exact g.mpr hq
    exact hx _ (hm _ ⟨rfl, hI⟩)
theorem tp_damps_l (ho : tp_O o) (hr : tp_rg s) (e6 : jx_rv (M 0 6) = .ref o) (hC : tp_C M o s) {n : Nat} (hn : tp_rdn M s n) {Q : jx_Po} : ∀ r u acc w, u + r = 4 → (jx_Ev (d + 20) mX7_damps 25 [some (.ref 0), some (.int (nI (s 0 2))), some (.int (nI acc)), some (.int (nI u))] [] (jx_up M o 7 w) Q ↔ Q [.int (nI (tp_fo (fun u => tp_al (tp_ok M (tp_su s 0 2 u)) 0 n) u r acc))] M)
  | 0, u, acc, w, h => by
    have h : u = 4 := h
    subst h
    have hoo : o = 16 ∨ o = 22 := ho
    obtain ⟨o0, o1, o2, o3, o4, o5, z1, z2, z3, z4, z5⟩ := tp_Ot ho
    obtain ⟨r1, r2, r3, r4, r5, r6⟩ := id hr
    have e6' : jx_rv (jx_up M o 7 w 0 6) = .ref o := by rw [jx_upE, if_neg (by omega)]; exact e6
    have e7 : jx_up M o 7 (nI (s 0 2)) = M := jx_up_same hC.2.2.1
    rw [eX7_damps_25]
    simp (disch := first | assumption | omega | decide) only [jx_qI_a, jx_qV_a, jx_qL_a, jn_lt, jn_le, jn_eq, jn_L, jn_A, jn_N, jn_LL, jn_add, jn_mul, jn_sub, jn_cl, jn_vin, jn_shl1, jn_shr, jn_or, jn_l_or0, jn_and1, jo_ltT, jo_ltF, jo_leT, jo_leF, jo_eqT, jo_eqF, true_or, or_true, true_and, and_true, false_or, or_false, false_and, and_false, if_true, if_false, not_true_eq_false, not_false_eq_true, jx_tab, eX7_damps, e6', jx_up_up, e7, tp_fo]
  | r + 1, u, acc, w, h => by
    have ih := tp_damps_l ho hr e6 hC hn (Q := Q) r (u + 1) (acc ||| (if tp_al (tp_ok M (tp_su s 0 2 u)) 0 n = true then 2 ^ u else 0)) (nI u) (by omega)
    have hoo : o = 16 ∨ o = 22 := ho
    obtain ⟨o0, o1, o2, o3, o4, o5, z1, z2, z3, z4, z5⟩ := tp_Ot ho
    obtain ⟨r1, r2, r3, r4, r5, r6⟩ := id hr
    have e6' : ∀ w, jx_rv (jx_up M o 7 w 0 6) = .ref o := fun w => by rw [jx_upE, if_neg (by omega)]; exact e6
    have g := fun d q => tp_bit (d := d) (q := q) (u := u) ho (tp_rg_d hr (show u ≤ 3 by omega)) (tp_C_d (v := u) hC) (tp_rdn_su (i := 0) (j := 2) (v := u) (Or.inr (by decide)) hn) (fun a b q1 q2 => by rw [jx_upE, if_neg (by omega)]) (by omega)
    rw [eX7_damps_25, tp_fo]
    simp (disch := first | assumption | omega | decide) only [jx_qI_a, jx_qV_a, jx_qL_a, jn_lt, jn_le, jn_eq, jn_L, jn_A, jn_N, jn_LL, jn_add, jn_mul, jn_sub, jn_cl, jn_vin, jn_shl1, jn_shr, jn_or, jn_l_or0, jn_and1, jo_ltT, jo_ltF, jo_leT, jo_leF, jo_eqT, jo_eqF, true_or, or_true, true_and, and_true, false_or, or_false, false_and, and_false, if_true, if_false, not_true_eq_false, not_false_eq_true, jx_tab, eX7_damps, e6', jx_up_up, g, ih]
theorem tq_damps_l (hr : tp_rg s) (hD : tp_D M s) {n : Nat} (hn : tp_rdn M s n) {Q : jx_Po} : ∀ r u acc w, u + r = 4 → (jx_Ev (d + 20) mX8_damps 19 [some (.ref 36), some (.int (nI (s 0 2))), some (.int (nI acc)), some (.int (nI u))] [] (jx_up M 36 7 w) Q ↔ Q [.int (nI (tp_fo (fun u => tp_al (tp_ok M (tp_su s 0 2 u)) 0 n) u r acc))] M)
  | 0, u, acc, w, h => by
    have h : u = 4 := h
    subst h
    obtain ⟨r1, r2, r3, r4, r5, r6⟩ := id hr
    have e7 : jx_up M 36 7 (nI (s 0 2)) = M := jx_up_same hD.2.2.1
    rw [eX8_damps_19]
    simp (disch := first | assumption | omega | decide) only [jx_qI_a, jx_qV_a, jx_qL_a, jn_lt, jn_le, jn_eq, jn_L, jn_A, jn_N, jn_LL, jn_add, jn_mul, jn_sub, jn_cl, jn_vin, jn_shl1, jn_shr, jn_or, jn_l_or0, jn_and1, jo_ltT, jo_ltF, jo_leT, jo_leF, jo_eqT, jo_eqF, true_or, or_true, true_and, and_true, false_or, or_false, false_and, and_false, if_true, if_false, not_true_eq_false, not_false_eq_true, jx_tab, eX8_damps, jx_up_up, e7, tp_fo]
  | r + 1, u, acc, w, h => by
    have ih := tq_damps_l hr hD hn (Q := Q) r (u + 1) (acc ||| (if tp_al (tp_ok M (tp_su s 0 2 u)) 0 n = true then 2 ^ u else 0)) (nI u) (by omega)
    obtain ⟨r1, r2, r3, r4, r5, r6⟩ := id hr
    have g := fun d q => tq_so (d := d) (q := q) (tp_rg_d hr (show u ≤ 3 by omega)) (tp_D_d (v := u) hD) (tp_rdn_su (i := 0) (j := 2) (v := u) (Or.inr (by decide)) hn) (by rw [jx_upE, if_neg (by omega)]) (fun a b q1 q2 => by rw [jx_upE, if_neg (by omega)])
    rw [eX8_damps_19, tp_fo]
    by_cases z : tp_al (tp_ok M (tp_su s 0 2 u)) 0 n = true
    · rw [if_pos z] at ih g ⊢
      simp (disch := first | assumption | omega | decide) only [jx_qI_a, jx_qV_a, jx_qL_a, jn_lt, jn_le, jn_eq, jn_L, jn_A, jn_N, jn_LL, jn_add, jn_mul, jn_sub, jn_cl, jn_vin, jn_shl1, jn_shr, jn_or, jn_l_or0, jn_and1, jo_ltT, jo_ltF, jo_leT, jo_leF, jo_eqT, jo_eqF, true_or, or_true, true_and, and_true, false_or, or_false, false_and, and_false, if_true, if_false, not_true_eq_false, not_false_eq_true, jx_tab, eX8_damps, jx_up_up, g, ih]
    · rw [if_neg z, Nat.or_zero] at ih ⊢
      rw [if_neg z] at g
      simp (disch := first | assumption | omega | decide) only [jx_qI_a, jx_qV_a, jx_qL_a, jn_lt, jn_le, jn_eq, jn_L, jn_A, jn_N, jn_LL, jn_add, jn_mul, jn_sub, jn_cl, jn_vin, jn_shl1, jn_shr, jn_or, jn_l_or0, jn_and1, jo_ltT, jo_ltF, jo_leT, jo_leF, jo_eqT, jo_eqF, true_or, or_true, true_and, and_true, false_or, or_false, false_and, and_false, if_true, if_false, not_true_eq_false, not_false_eq_true, jx_tab, eX8_damps, jx_up_up, g, ih, jn_or_0]
theorem op_damps (h : tp_I M) : jx_I (d + 20) mX7_damps [.ref 0] M (fun r M1 => jx_I (d + 20) mX8_damps [.ref 36] M1 (fun r2 M2 => r = r2 ∧ tp_I M2)) := by
  have hI := h
  obtain ⟨s, o, ho, h06, h07, hr, hC, hD, hf, ht, hrd, hsh⟩ := h
  have e6 : jx_rv (M 0 6) = .ref o := by rw [h06]; exact tp_rvn (by rcases ho with rfl | rfl <;> decide)
  obtain ⟨n, hn'⟩ := tp_rdn_of hr hrd
  obtain ⟨o0, o1, o2, o3, o4, o5, z1, z2, z3, z4, z5⟩ := tp_Ot ho
  obtain ⟨r1, r2, r3, r4, r5, r6⟩ := id hr
  have n0 : (0 : Int32) = nI 0 := fa_lit 0
  have g1 := fun d q => tp_stands (d := d) (q := q) ho hr hC
  by_cases hs : 0 < s 0 1
  · have hx : ∀ q : Int32 → jx_M → Prop, q (nI (tp_fo (fun u => tp_al (tp_ok M (tp_su s 0 2 u)) 0 n) 0 4 0)) M → jx_I (d + 20) mX7_damps [.ref 0] M q := by
      intro q hq
      have g := tp_damps_l (d := d) ho hr e6 hC hn' (Q := jx_qI q) 4 0 0 (nI (s 0 2)) rfl
      rw [jx_up_same hC.2.2.1, jx_qI_a] at g
      simp (disch := first | assumption | omega | decide) only [jx_qI_a, jx_qV_a, jx_qL_a, jn_lt, jn_le, jn_eq, jn_L, jn_A, jn_N, jn_LL, jn_add, jn_mul, jn_sub, jn_cl, jn_vin, jn_shl1, jn_shr, jn_or, jn_l_or0, jn_and1, jo_ltT, jo_ltF, jo_leT, jo_leF, jo_eqT, jo_eqF, true_or, or_true, true_and, and_true, false_or, or_false, false_and, and_false, if_true, if_false, not_true_eq_false, not_false_eq_true, jx_tab, kX7_damps, eX7_damps, e6, g1, hC.2.2.1]
      rw [n0]
      exact g.mpr hq
    have hm : ∀ q : Int32 → jx_M → Prop, q (nI (tp_fo (fun u => tp_al (tp_ok M (tp_su s 0 2 u)) 0 n) 0 4 0)) M → jx_I (d + 20) mX8_damps [.ref 36] M q := by
      intro q hq
      have g := tq_damps_l (d := d) hr hD hn' (Q := jx_qI q) 4 0 0 (nI (s 0 2)) rfl
      rw [jx_up_same hD.2.2.1, jx_qI_a] at g
      simp (disch := first | assumption | omega | decide) only [jx_qI_a, jx_qV_a, jx_qL_a, jn_lt, jn_le, jn_eq, jn_L, jn_A, jn_N, jn_LL, jn_add, jn_mul, jn_sub, jn_cl, jn_vin, jn_shl1, jn_shr, jn_or, jn_l_or0, jn_and1, jo_ltT, jo_ltF, jo_leT, jo_leF, jo_eqT, jo_eqF, true_or, or_true, true_and, and_true, false_or, or_false, false_and, and_false, if_true, if_false, not_true_eq_false, not_false_eq_true, jx_tab, kX8_damps, eX8_damps, hD.2.1, hD.2.2.1]
      rw [n0]
      exact g.mpr hq
    exact hx _ (hm _ ⟨rfl, hI⟩)
  · have hx : ∀ q : Int32 → jx_M → Prop, q (-3) M → jx_I (d + 20) mX7_damps [.ref 0] M q := by
      intro q hq
      simp (disch := first | assumption | omega | decide) only [jx_qI_a, jx_qV_a, jx_qL_a, jn_lt, jn_le, jn_eq, jn_L, jn_A, jn_N, jn_LL, jn_add, jn_mul, jn_sub, jn_cl, jn_vin, jn_shl1, jn_shr, jn_or, jn_l_or0, jn_and1, jo_ltT, jo_ltF, jo_leT, jo_leF, jo_eqT, jo_eqF, true_or, or_true, true_and, and_true, false_or, or_false, false_and, and_false, if_true, if_false, not_true_eq_false, not_false_eq_true, jx_tab, kX7_damps, eX7_damps, e6, g1, hq]
    have hm : ∀ q : Int32 → jx_M → Prop, q (-3) M → jx_I (d + 20) mX8_damps [.ref 36] M q := by
      intro q hq
      simp (disch := first | assumption | omega | decide) only [jx_qI_a, jx_qV_a, jx_qL_a, jn_lt, jn_le, jn_eq, jn_L, jn_A, jn_N, jn_LL, jn_add, jn_mul, jn_sub, jn_cl, jn_vin, jn_shl1, jn_shr, jn_or, jn_l_or0, jn_and1, jo_ltT, jo_ltF, jo_leT, jo_leF, jo_eqT, jo_eqF, true_or, or_true, true_and, and_true, false_or, or_false, false_and, and_false, if_true, if_false, not_true_eq_false, not_false_eq_true, jx_tab, kX8_damps, eX8_damps, hD.2.1, hq]
    exact hx _ (hm _ ⟨rfl, hI⟩)
end TPS
