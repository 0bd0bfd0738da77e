/-! openings and harm -/
/-- how loud all that p opens in the month m are, of the first n -/
def tp_hg (s : tp_S) (mo : Nat → Nat) (p m : Nat) : Nat → Nat
  | 0 => 0
  | n + 1 => tp_hg s mo p m n + (if n < s 0 1 ∧ s 5 n = p ∧ mo n = m then tp_lo s n m else 0)
def tp_h (s : tp_S) (mo : Nat → Nat) (p : Nat) : Nat → Nat
  | 0 => 0
  | m + 1 => tp_h s mo p m + (tp_hg s mo p m 6 - s 1 p)
def tp_H (s : tp_S) (mo : Nat → Nat) (p : Nat) : Nat := if p < s 0 0 then tp_h s mo p 4 else 0
def tp_HS (s : tp_S) (mo : Nat → Nat) : Nat → Nat
  | 0 => 0
  | p + 1 => tp_HS s mo p + tp_H s mo p
def tp_mh (s : tp_S) (mo : Nat → Nat) : Nat → Nat × Int32
  | 0 => (0, -9)
  | p + 1 => if (tp_mh s mo p).1 < tp_H s mo p then (tp_H s mo p, nI p) else tp_mh s mo p
def tp_mt (mo : Nat → Nat) : Nat → Nat
  | 0 => 0
  | n + 1 => tp_mt mo n ||| 2 ^ mo n
theorem tp_hg_le {s : tp_S} (hr : tp_rg s) {mo : Nat → Nat} {p m : Nat} (hm : m ≤ 9) : ∀ n, tp_hg s mo p m n ≤ 72 * n
  | 0 => by rw [tp_hg]; omega
  | n + 1 => by
    have := tp_hg_le hr (mo := mo) (p := p) hm n
    rw [tp_hg]
    split
    · next h => have := tp_lo_le hr h.1 hm; omega
    · omega
theorem tp_hg_top {s : tp_S} {mo : Nat → Nat} {p m : Nat} : ∀ n, s 0 1 ≤ n → tp_hg s mo p m n = tp_hg s mo p m (s 0 1)
  | 0, h => by rw [show s 0 1 = 0 by omega]
  | n + 1, h => by
    by_cases e : s 0 1 = n + 1
    · rw [e]
    · rw [tp_hg, if_neg (by omega), Nat.add_zero]
      exact tp_hg_top n (by omega)
theorem tp_h_le {s : tp_S} (hr : tp_rg s) {mo : Nat → Nat} {p : Nat} : ∀ m, m ≤ 10 → tp_h s mo p m ≤ 432 * m
  | 0, _ => by rw [tp_h]; omega
  | m + 1, h => by
    have := tp_h_le hr (mo := mo) (p := p) m (by omega)
    have := tp_hg_le hr (mo := mo) (p := p) (show m ≤ 9 by omega) 6
    rw [tp_h]
    omega
theorem tp_H_le {s : tp_S} (hr : tp_rg s) {mo : Nat → Nat} {p : Nat} : tp_H s mo p ≤ 1728 := by
  rw [tp_H]
  split
  · exact tp_h_le hr 4 (by decide)
  · omega
theorem tp_HS_le {s : tp_S} (hr : tp_rg s) {mo : Nat → Nat} : ∀ n, tp_HS s mo n ≤ 1728 * n
  | 0 => by rw [tp_HS]; omega
  | n + 1 => by
    have := tp_HS_le hr (mo := mo) n
    have := tp_H_le hr (mo := mo) (p := n)
    rw [tp_HS]; omega
theorem tp_HS_top {s : tp_S} {mo : Nat → Nat} : ∀ n, s 0 0 ≤ n → tp_HS s mo n = tp_HS s mo (s 0 0)
  | 0, h => by rw [show s 0 0 = 0 by omega]
  | n + 1, h => by
    by_cases e : s 0 0 = n + 1
    · rw [e]
    · rw [tp_HS, tp_H, if_neg (by omega), Nat.add_zero]
      exact tp_HS_top n (by omega)
theorem tp_mh_le {s : tp_S} (hr : tp_rg s) {mo : Nat → Nat} : ∀ n, (tp_mh s mo n).1 ≤ 1728
  | 0 => by rw [tp_mh]; decide
  | n + 1 => by
    have := tp_mh_le hr (mo := mo) n
    have := tp_H_le hr (mo := mo) (p := n)
    rw [tp_mh]
    split
    · exact this
    · assumption
theorem tp_mh_top {s : tp_S} {mo : Nat → Nat} : ∀ n, s 0 0 ≤ n → tp_mh s mo n = tp_mh s mo (s 0 0)
  | 0, h => by rw [show s 0 0 = 0 by omega]
  | n + 1, h => by
    by_cases e : s 0 0 = n + 1
    · rw [e]
    · rw [tp_mh, tp_H, if_neg (show ¬ n < s 0 0 by omega), if_neg (by omega)]
      exact tp_mh_top n (by omega)
theorem jn_max {a b : Nat} (ha : a < 1000000) (hb : b < 1000000) : (if (0 : Int32) < nI a - nI b then nI a - nI b else 0) = nI (a - b) := by
  by_cases h : b < a
  · rw [jn_sub (by omega), if_pos]
    have n0 : (0 : Int32) = nI 0 := fa_lit 0
    rw [n0, jn_lt (by decide) (by omega)]
    omega
  · have e : a - b = 0 := by omega
    rw [e, if_neg]
    · exact fa_lit 0
    · rw [fa_lt, pk_sub_toInt (by omega) (by omega)]
      show ¬ (0 : Int) < _
      omega
section TPP
variable {d o : Nat} {M : jx_M} {s : tp_S} {mo : Nat → Nat} {q : Int32 → jx_M → Prop}
theorem tp_harmIn_l (ho : tp_O o) (hr : tp_rg s) (hC : tp_C M o s) {p m : Nat} (hp : p < 100) (hm : m < 4) (h8 : ∀ c, c < s 0 1 → s 5 c = p → M 8 c = nI (mo c) ∧ mo c < 100) {Q : jx_Po} : ∀ r c, c + r = 6 → (jx_Ev (d + 3) mX2_harmIn 6 [some (.ref 7), some (.ref o), some (.int (nI p)), some (.int (nI m)), some (.int (nI (tp_hg s mo p m c))), some (.int (nI c))] [] M Q ↔ Q [.int (nI (if p < s 0 0 then tp_hg s mo p m 6 - s 1 p else 0))] M)
  | 0, c, h => by
    have h : c = 6 := h
    subst h
    have hg := tp_hg_le hr (mo := mo) (p := p) (show m ≤ 9 by omega) 6
    obtain ⟨o0, o1, o2, o3, o4, o5, z1, z2, z3, z4, z5⟩ := tp_Ot ho
    rw [eX2_harmIn_6]
    by_cases hpp : p < s 0 0
    · have hh := fun d q => tp_hasPerson_y (d := d) (q := q) ho hr hC hpp
      obtain ⟨g1, g2⟩ := hr.2.2.2.2.1 p hpp
      have k1 := (hC.2.2.2.2.1 p hpp).1
      have e := jn_max (a := tp_hg s mo p m 6) (b := s 1 p) (by omega) (by omega)
      obtain ⟨r1, r2, r3, r4, r5, r6⟩ := id hr
      rw [if_pos hpp]
      simp (disch := first | assumption | omega | decide) only [eX2_harmIn, hh, k1, z1, jn_vin, jn_cl, jn_L, jn_LL, jo_ltT, jo_ltF, jo_leT, jo_leF, if_true, if_false, true_and, e]
    · have hh := fun d q => tp_hasPerson_n (d := d) (q := q) (x := nI p) ho hr hC (Or.inr ((jn_le (by have := hr.1; omega) (by omega)).mpr (by omega)))
      have n0 : (0 : Int32) = nI 0 := fa_lit 0
      rw [if_neg hpp, ← n0]
      simp (disch := first | assumption | omega | decide) only [jx_qI_a, jx_qV_a, jx_qL_a, jn_lt, jn_le, jn_eq, jn_L, jn_A, jn_N, jn_LL, jn_add, jn_mul, jn_sub, jn_cl, jn_vin, jn_shl1, jn_shr, jn_or, jn_l_or0, jn_and1, jo_ltT, jo_ltF, jo_leT, jo_leF, jo_eqT, jo_eqF, true_or, or_true, true_and, and_true, false_or, or_false, false_and, and_false, if_true, if_false, not_true_eq_false, not_false_eq_true, jx_tab, eX2_harmIn, hh]
  | r + 1, c, h => by
    have ih := tp_harmIn_l ho hr hC hp hm h8 (Q := Q) r (c + 1) (by omega)
    obtain ⟨o0, o1, o2, o3, o4, o5, z1, z2, z3, z4, z5⟩ := tp_Ot ho
    rw [eX2_harmIn_6]
    by_cases hc : c < s 0 1
    · have hh := fun d q => tp_isFor_y (d := d) (q := q) ho hr hC hc hp
      by_cases h5 : s 5 c = p
      · obtain ⟨k8, b8⟩ := h8 c hc h5
        have hl := fun d q => tp_loudness (d := d) (q := q) ho hr hC hc (show m < 100 by omega)
        obtain ⟨r1, r2, r3, r4, r5, r6⟩ := id hr
        by_cases hmo : mo c = m
        · rw [tp_hg, if_pos ⟨hc, h5, hmo⟩] at ih
          simp (disch := first | assumption | omega | decide) only [jx_qI_a, jx_qV_a, jx_qL_a, jn_lt, jn_le, jn_eq, jn_L, jn_A, jn_N, jn_LL, jn_add, jn_mul, jn_sub, jn_cl, jn_vin, jn_shl1, jn_shr, jn_or, jn_l_or0, jn_and1, jo_ltT, jo_ltF, jo_leT, jo_leF, jo_eqT, jo_eqF, true_or, or_true, true_and, and_true, false_or, or_false, false_and, and_false, if_true, if_false, not_true_eq_false, not_false_eq_true, jx_tab, eX2_harmIn, hh, hl, k8, ih]
        · rw [tp_hg, if_neg (fun z => hmo z.2.2)] at ih
          simp only [Nat.add_zero] at ih
          simp (disch := first | assumption | omega | decide) only [jx_qI_a, jx_qV_a, jx_qL_a, jn_lt, jn_le, jn_eq, jn_L, jn_A, jn_N, jn_LL, jn_add, jn_mul, jn_sub, jn_cl, jn_vin, jn_shl1, jn_shr, jn_or, jn_l_or0, jn_and1, jo_ltT, jo_ltF, jo_leT, jo_leF, jo_eqT, jo_eqF, true_or, or_true, true_and, and_true, false_or, or_false, false_and, and_false, if_true, if_false, not_true_eq_false, not_false_eq_true, jx_tab, eX2_harmIn, hh, k8, ih]
      · rw [tp_hg, if_neg (fun z => h5 z.2.1)] at ih
        simp only [Nat.add_zero] at ih
        simp (disch := first | assumption | omega | decide) only [jx_qI_a, jx_qV_a, jx_qL_a, jn_lt, jn_le, jn_eq, jn_L, jn_A, jn_N, jn_LL, jn_add, jn_mul, jn_sub, jn_cl, jn_vin, jn_shl1, jn_shr, jn_or, jn_l_or0, jn_and1, jo_ltT, jo_ltF, jo_leT, jo_leF, jo_eqT, jo_eqF, true_or, or_true, true_and, and_true, false_or, or_false, false_and, and_false, if_true, if_false, not_true_eq_false, not_false_eq_true, jx_tab, eX2_harmIn, hh, ih]
    · have hh := fun d q y => tp_isFor_n (d := d) (q := q) (x := nI c) (y := y) ho hr hC (Or.inr ((jn_le (by have := hr.2.1; omega) (by omega)).mpr (by omega)))
      rw [tp_hg, if_neg (fun z => hc z.1)] at ih
      simp only [Nat.add_zero] at ih
      simp (disch := first | assumption | omega | decide) only [jx_qI_a, jx_qV_a, jx_qL_a, jn_lt, jn_le, jn_eq, jn_L, jn_A, jn_N, jn_LL, jn_add, jn_mul, jn_sub, jn_cl, jn_vin, jn_shl1, jn_shr, jn_or, jn_l_or0, jn_and1, jo_ltT, jo_ltF, jo_leT, jo_leF, jo_eqT, jo_eqF, true_or, or_true, true_and, and_true, false_or, or_false, false_and, and_false, if_true, if_false, not_true_eq_false, not_false_eq_true, jx_tab, eX2_harmIn, hh, ih]
theorem tp_harmIn (ho : tp_O o) (hr : tp_rg s) (hC : tp_C M o s) {p m : Nat} (hp : p < 100) (hm : m < 4) (h8 : ∀ c, c < s 0 1 → s 5 c = p → M 8 c = nI (mo c) ∧ mo c < 100) : jx_I (d + 3) mX2_harmIn [.ref 7, .ref o, .int (nI p), .int (nI m)] M q ↔ q (nI (if p < s 0 0 then tp_hg s mo p m 6 - s 1 p else 0)) M := by
  have h := tp_harmIn_l (d := d) ho hr hC hp hm h8 (Q := jx_qI q) 6 0 rfl
  rw [jx_qI_a] at h
  simp (disch := first | assumption | omega | decide) only [jx_qI_a, jx_qV_a, jx_qL_a, jn_LL, true_or, or_true, true_and, and_true, false_or, or_false, false_and, and_false, if_true, if_false, not_true_eq_false, not_false_eq_true, jx_tab, kX2_harmIn, eX2_harmIn]
  exact h
theorem tp_harmTo_l (ho : tp_O o) (hr : tp_rg s) (hC : tp_C M o s) {p : Nat} (hp : p < 100) (h8 : ∀ c, c < s 0 1 → s 5 c = p → M 8 c = nI (mo c) ∧ mo c < 100) {Q : jx_Po} : ∀ r m, m + r = 4 → (jx_Ev (d + 4) mX2_harmTo 5 [some (.ref 7), some (.ref o), some (.int (nI p)), some (.int (nI (if p < s 0 0 then tp_h s mo p m else 0))), some (.int (nI m))] [] M Q ↔ Q [.int (nI (tp_H s mo p))] M)
  | 0, m, h => by
    have h : m = 4 := h
    subst h
    rw [eX2_harmTo_5, tp_H]
    simp (disch := first | assumption | omega | decide) only [jx_qI_a, jx_qV_a, jx_qL_a, jn_lt, jn_le, jn_eq, jn_L, jn_A, jn_N, jn_LL, jn_add, jn_mul, jn_sub, jn_cl, jn_vin, jn_shl1, jn_shr, jn_or, jn_l_or0, jn_and1, jo_ltT, jo_ltF, jo_leT, jo_leF, jo_eqT, jo_eqF, true_or, or_true, true_and, and_true, false_or, or_false, false_and, and_false, if_true, if_false, not_true_eq_false, not_false_eq_true, jx_tab, eX2_harmTo]
  | r + 1, m, h => by
    have ih := tp_harmTo_l ho hr hC hp h8 (Q := Q) r (m + 1) (by omega)
    have hh := fun d q => tp_harmIn (d := d) (q := q) ho hr hC hp (show m < 4 by omega) h8
    obtain ⟨o0, o1, o2, o3, o4, o5, z1, z2, z3, z4, z5⟩ := tp_Ot ho
    rw [eX2_harmTo_5]
    by_cases hpp : p < s 0 0
    · rw [if_pos hpp] at ih hh ⊢
      rw [tp_h] at ih
      simp (disch := first | assumption | omega | decide) only [jx_qI_a, jx_qV_a, jx_qL_a, jn_lt, jn_le, jn_eq, jn_L, jn_A, jn_N, jn_LL, jn_add, jn_mul, jn_sub, jn_cl, jn_vin, jn_shl1, jn_shr, jn_or, jn_l_or0, jn_and1, jo_ltT, jo_ltF, jo_leT, jo_leF, jo_eqT, jo_eqF, true_or, or_true, true_and, and_true, false_or, or_false, false_and, and_false, if_true, if_false, not_true_eq_false, not_false_eq_true, jx_tab, eX2_harmTo, hh, ih]
    · rw [if_neg hpp] at ih hh ⊢
      simp (disch := first | assumption | omega | decide) only [jx_qI_a, jx_qV_a, jx_qL_a, jn_lt, jn_le, jn_eq, jn_L, jn_A, jn_N, jn_LL, jn_add, jn_mul, jn_sub, jn_cl, jn_vin, jn_shl1, jn_shr, jn_or, jn_l_or0, jn_and1, jo_ltT, jo_ltF, jo_leT, jo_leF, jo_eqT, jo_eqF, true_or, or_true, true_and, and_true, false_or, or_false, false_and, and_false, if_true, if_false, not_true_eq_false, not_false_eq_true, jx_tab, eX2_harmTo, hh, Nat.add_zero, ih]
theorem tp_harmTo (ho : tp_O o) (hr : tp_rg s) (hC : tp_C M o s) {p : Nat} (hp : p < 100) (h8 : ∀ c, c < s 0 1 → s 5 c = p → M 8 c = nI (mo c) ∧ mo c < 100) : jx_I (d + 4) mX2_harmTo [.ref 7, .ref o, .int (nI p)] M q ↔ q (nI (tp_H s mo p)) M := by
  have h := tp_harmTo_l (d := d) ho hr hC hp h8 (Q := jx_qI q) 4 0 rfl
  have e : (if p < s 0 0 then tp_h s mo p 0 else 0) = 0 := by rw [tp_h]; split <;> rfl
  rw [jx_qI_a, e] at h
  simp (disch := first | assumption | omega | decide) only [jx_qI_a, jx_qV_a, jx_qL_a, jn_LL, true_or, or_true, true_and, and_true, false_or, or_false, false_and, and_false, if_true, if_false, not_true_eq_false, not_false_eq_true, jx_tab, kX2_harmTo, eX2_harmTo]
  exact h
theorem tp_harmAll_l (ho : tp_O o) (hr : tp_rg s) (hC : tp_C M o s) (h8 : ∀ c, c < s 0 1 → M 8 c = nI (mo c) ∧ mo c < 100) {Q : jx_Po} : ∀ r p, p + r = 5 → (jx_Ev (d + 5) mX2_harmToAll 4 [some (.ref 7), some (.ref o), some (.int (nI (tp_HS s mo p))), some (.int (nI p))] [] M Q ↔ Q [.int (nI (tp_HS s mo 5))] M)
  | 0, p, h => by
    have h : p = 5 := h
    subst h
    rw [eX2_harmToAll_4]
    simp (disch := first | assumption | omega | decide) only [jx_qI_a, jx_qV_a, jx_qL_a, jn_lt, jn_le, jn_eq, jn_L, jn_A, jn_N, jn_LL, jn_add, jn_mul, jn_sub, jn_cl, jn_vin, jn_shl1, jn_shr, jn_or, jn_l_or0, jn_and1, jo_ltT, jo_ltF, jo_leT, jo_leF, jo_eqT, jo_eqF, true_or, or_true, true_and, and_true, false_or, or_false, false_and, and_false, if_true, if_false, not_true_eq_false, not_false_eq_true, jx_tab, eX2_harmToAll]
  | r + 1, p, h => by
    have ih := tp_harmAll_l ho hr hC h8 (Q := Q) r (p + 1) (by omega)
    have hh := fun d q => tp_harmTo (d := d) (q := q) (p := p) ho hr hC (by omega) (fun c hc _ => h8 c hc)
    obtain ⟨o0, o1, o2, o3, o4, o5, z1, z2, z3, z4, z5⟩ := tp_Ot ho
    rw [eX2_harmToAll_4]
    rw [tp_HS] at ih
    simp (disch := first | assumption | omega | decide) only [jx_qI_a, jx_qV_a, jx_qL_a, jn_lt, jn_le, jn_eq, jn_L, jn_A, jn_N, jn_LL, jn_add, jn_mul, jn_sub, jn_cl, jn_vin, jn_shl1, jn_shr, jn_or, jn_l_or0, jn_and1, jo_ltT, jo_ltF, jo_leT, jo_leF, jo_eqT, jo_eqF, true_or, or_true, true_and, and_true, false_or, or_false, false_and, and_false, if_true, if_false, not_true_eq_false, not_false_eq_true, jx_tab, eX2_harmToAll, hh, ih]
theorem tp_harmAll (ho : tp_O o) (hr : tp_rg s) (hC : tp_C M o s) (h8 : ∀ c, c < s 0 1 → M 8 c = nI (mo c) ∧ mo c < 100) : jx_I (d + 5) mX2_harmToAll [.ref 7, .ref o] M q ↔ q (nI (tp_HS s mo (s 0 0))) M := by
  have h := tp_harmAll_l (d := d) ho hr hC h8 (Q := jx_qI q) 5 0 rfl
  rw [jx_qI_a, tp_HS_top 5 hr.1] at h
  simp (disch := first | assumption | omega | decide) only [jx_qI_a, jx_qV_a, jx_qL_a, jn_LL, true_or, or_true, true_and, and_true, false_or, or_false, false_and, and_false, if_true, if_false, not_true_eq_false, not_false_eq_true, jx_tab, kX2_harmToAll, eX2_harmToAll]
  exact h
theorem tp_most_l (ho : tp_O o) (hr : tp_rg s) (hC : tp_C M o s) (h8 : ∀ c, c < s 0 1 → M 8 c = nI (mo c) ∧ mo c < 100) {Q : jx_Po} : ∀ r p j, p + r = 5 → (jx_Ev (d + 5) mX2_mostHarmed 8 [some (.ref 7), some (.ref o), some (.int (nI (tp_mh s mo p).1)), some (.int (tp_mh s mo p).2), some (.int (nI p)), j] [] M Q ↔ Q [.int (tp_mh s mo 5).2] M)
  | 0, p, j, h => by
    have h : p = 5 := h
    subst h
    rw [eX2_mostHarmed_8]
    simp (disch := first | assumption | omega | decide) only [jx_qI_a, jx_qV_a, jx_qL_a, jn_lt, jn_le, jn_eq, jn_L, jn_A, jn_N, jn_LL, jn_add, jn_mul, jn_sub, jn_cl, jn_vin, jn_shl1, jn_shr, jn_or, jn_l_or0, jn_and1, jo_ltT, jo_ltF, jo_leT, jo_leF, jo_eqT, jo_eqF, true_or, or_true, true_and, and_true, false_or, or_false, false_and, and_false, if_true, if_false, not_true_eq_false, not_false_eq_true, jx_tab, eX2_mostHarmed]
  | r + 1, p, j, h => by
    have ih := tp_most_l ho hr hC h8 (Q := Q) r (p + 1) (some (.int (nI (tp_H s mo p)))) (by omega)
    have hh := fun d q => tp_harmTo (d := d) (q := q) (p := p) ho hr hC (by omega) (fun c hc _ => h8 c hc)
    have b1 := tp_H_le hr (mo := mo) (p := p)
    have b2 := tp_mh_le hr (mo := mo) p
    obtain ⟨o0, o1, o2, o3, o4, o5, z1, z2, z3, z4, z5⟩ := tp_Ot ho
    rw [eX2_mostHarmed_8]
    by_cases hz : (tp_mh s mo p).1 < tp_H s mo p
    · rw [tp_mh, if_pos hz] at ih
      simp (disch := first | assumption | omega | decide) only [jx_qI_a, jx_qV_a, jx_qL_a, jn_lt, jn_le, jn_eq, jn_L, jn_A, jn_N, jn_LL, jn_add, jn_mul, jn_sub, jn_cl, jn_vin, jn_shl1, jn_shr, jn_or, jn_l_or0, jn_and1, jo_ltT, jo_ltF, jo_leT, jo_leF, jo_eqT, jo_eqF, true_or, or_true, true_and, and_true, false_or, or_false, false_and, and_false, if_true, if_false, not_true_eq_false, not_false_eq_true, jx_tab, eX2_mostHarmed, hh, ih]
    · rw [tp_mh, if_neg hz] at ih
      simp (disch := first | assumption | omega | decide) only [jx_qI_a, jx_qV_a, jx_qL_a, jn_lt, jn_le, jn_eq, jn_L, jn_A, jn_N, jn_LL, jn_add, jn_mul, jn_sub, jn_cl, jn_vin, jn_shl1, jn_shr, jn_or, jn_l_or0, jn_and1, jo_ltT, jo_ltF, jo_leT, jo_leF, jo_eqT, jo_eqF, true_or, or_true, true_and, and_true, false_or, or_false, false_and, and_false, if_true, if_false, not_true_eq_false, not_false_eq_true, jx_tab, eX2_mostHarmed, hh, ih]
theorem tp_most (ho : tp_O o) (hr : tp_rg s) (hC : tp_C M o s) (h8 : ∀ c, c < s 0 1 → M 8 c = nI (mo c) ∧ mo c < 100) : jx_I (d + 5) mX2_mostHarmed [.ref 7, .ref o] M q ↔ q (tp_mh s mo (s 0 0)).2 M := by
  have h := tp_most_l (d := d) ho hr hC h8 (Q := jx_qI q) 5 0 none rfl
  rw [jx_qI_a, tp_mh_top 5 hr.1] at h
  simp (disch := first | assumption | omega | decide) only [jx_qI_a, jx_qV_a, jx_qL_a, jn_LL, true_or, or_true, true_and, and_true, false_or, or_false, false_and, and_false, if_true, if_false, not_true_eq_false, not_false_eq_true, jx_tab, kX2_mostHarmed, eX2_mostHarmed]
  exact h
theorem tp_months_l (ho : tp_O o) (hr : tp_rg s) (hC : tp_C M o s) (h8 : ∀ c, c < s 0 1 → M 8 c = nI (mo c) ∧ mo c < 4) {Q : jx_Po} : ∀ r c, c + r = s 0 1 → (jx_Ev d mX2_monthsTaken 4 [some (.ref 7), some (.ref o), some (.int (nI (tp_mt mo c))), some (.int (nI c))] [] M Q ↔ Q [.int (nI (tp_mt mo (s 0 1)))] M)
  | 0, c, h => by
    have h : c = s 0 1 := h
    subst h
    obtain ⟨o0, o1, o2, o3, o4, o5, z1, z2, z3, z4, z5⟩ := tp_Ot ho
    obtain ⟨r1, r2, r3, r4, r5, r6⟩ := id hr
    rw [eX2_monthsTaken_4]
    simp (disch := first | assumption | omega | decide) only [jx_qI_a, jx_qV_a, jx_qL_a, jn_lt, jn_le, jn_eq, jn_L, jn_A, jn_N, jn_LL, jn_add, jn_mul, jn_sub, jn_cl, jn_vin, jn_shl1, jn_shr, jn_or, jn_l_or0, jn_and1, jo_ltT, jo_ltF, jo_leT, jo_leF, jo_eqT, jo_eqF, true_or, or_true, true_and, and_true, false_or, or_false, false_and, and_false, if_true, if_false, not_true_eq_false, not_false_eq_true, jx_tab, eX2_monthsTaken, hC.2.1]
  | r + 1, c, h => by
    have ih := tp_months_l ho hr hC h8 (Q := Q) r (c + 1) (by omega)
    obtain ⟨k8, b8⟩ := h8 c (by omega)
    obtain ⟨o0, o1, o2, o3, o4, o5, z1, z2, z3, z4, z5⟩ := tp_Ot ho
    obtain ⟨r1, r2, r3, r4, r5, r6⟩ := id hr
    rw [eX2_monthsTaken_4]
    rw [tp_mt] at ih
    simp (disch := first | assumption | omega | decide) only [jx_qI_a, jx_qV_a, jx_qL_a, jn_lt, jn_le, jn_eq, jn_L, jn_A, jn_N, jn_LL, jn_add, jn_mul, jn_sub, jn_cl, jn_vin, jn_shl1, jn_shr, jn_or, jn_l_or0, jn_and1, jo_ltT, jo_ltF, jo_leT, jo_leF, jo_eqT, jo_eqF, true_or, or_true, true_and, and_true, false_or, or_false, false_and, and_false, if_true, if_false, not_true_eq_false, not_false_eq_true, jx_tab, eX2_monthsTaken, hC.2.1, k8, ih]
theorem tp_months (ho : tp_O o) (hr : tp_rg s) (hC : tp_C M o s) (h8 : ∀ c, c < s 0 1 → M 8 c = nI (mo c) ∧ mo c < 4) : jx_I d mX2_monthsTaken [.ref 7, .ref o] M q ↔ q (nI (tp_mt mo (s 0 1))) M := by
  have h := tp_months_l (d := d) ho hr hC h8 (Q := jx_qI q) (s 0 1) 0 (Nat.zero_add _)
  rw [jx_qI_a] at h
  simp (disch := first | assumption | omega | decide) only [jx_qI_a, jx_qV_a, jx_qL_a, jn_LL, true_or, or_true, true_and, and_true, false_or, or_false, false_and, and_false, if_true, if_false, not_true_eq_false, not_false_eq_true, jx_tab, kX2_monthsTaken, eX2_monthsTaken]
  exact h
/-- the reference's -/
theorem tq_harm_li (hr : tp_rg s) (hD : tp_D M s) {p m acc : Nat} (hp : p < s 0 0) (hm : m < 4) (h8 : ∀ c, c < s 0 1 → s 5 c = p → M 50 c = nI (mo c) ∧ mo c < 100) {Q : jx_Po} : ∀ r c, c + r = s 0 1 → (jx_Ev (d + 1) mX8_harmTo 15 [some (.ref 36), some (.int (nI p)), some (.int (nI acc)), some (.int (nI m)), some (.int (nI (tp_hg s mo p m c))), some (.int (nI c))] [] M Q ↔ jx_Ev (d + 1) mX8_harmTo 4 [some (.ref 36), some (.int (nI p)), some (.int (nI (acc + (tp_hg s mo p m 6 - s 1 p)))), some (.int (nI (m + 1))), some (.int (nI (tp_hg s mo p m 6))), some (.int (nI (s 0 1)))] [] M Q)
  | 0, c, h => by
    have h : c = s 0 1 := h
    have hg := tp_hg_le hr (mo := mo) (p := p) (show m ≤ 9 by omega) 6
    rw [tp_hg_top 6 hr.2.1] at hg ⊢
    subst h
    obtain ⟨g1, g2⟩ := hr.2.2.2.2.1 p hp
    have k1 := (hD.2.2.2.2.1 p hp).1
    obtain ⟨r1, r2, r3, r4, r5, r6⟩ := id hr
    rw [eX8_harmTo_15]
    by_cases hz : s 1 p < tp_hg s mo p m (s 0 1)
    · simp (disch := first | assumption | omega | decide) only [jx_qI_a, jx_qV_a, jx_qL_a, jn_lt, jn_le, jn_eq, jn_L, jn_A, jn_N, jn_LL, jn_add, jn_mul, jn_sub, jn_cl, jn_vin, jn_shl1, jn_shr, jn_or, jn_l_or0, jn_and1, jo_ltT, jo_ltF, jo_leT, jo_leF, jo_eqT, jo_eqF, true_or, or_true, true_and, and_true, false_or, or_false, false_and, and_false, if_true, if_false, not_true_eq_false, not_false_eq_true, jx_tab, eX8_harmTo, hD.2.1, k1]
    · have e : tp_hg s mo p m (s 0 1) - s 1 p = 0 := by omega
      rw [e]
      simp (disch := first | assumption | omega | decide) only [jx_qI_a, jx_qV_a, jx_qL_a, jn_lt, jn_le, jn_eq, jn_L, jn_A, jn_N, jn_LL, jn_add, jn_mul, jn_sub, jn_cl, jn_vin, jn_shl1, jn_shr, jn_or, jn_l_or0, jn_and1, jo_ltT, jo_ltF, jo_leT, jo_leF, jo_eqT, jo_eqF, true_or, or_true, true_and, and_true, false_or, or_false, false_and, and_false, if_true, if_false, not_true_eq_false, not_false_eq_true, jx_tab, eX8_harmTo, hD.2.1, k1]
  | r + 1, c, h => by
    have ih := tq_harm_li hr hD hp hm (acc := acc) h8 (Q := Q) r (c + 1) (by omega)
    have hc : c < s 0 1 := by omega
    obtain ⟨r1, r2, r3, r4, r5, r6⟩ := id hr
    obtain ⟨g1, g2, g3, g4⟩ := r6 c hc
    have k5 := (hD.2.2.2.2.2 c hc).2.2
    rw [eX8_harmTo_15]
    by_cases h5 : s 5 c = p
    · obtain ⟨k8, b8⟩ := h8 c hc h5
      have hl := fun d q => tq_loudOf (d := d) (q := q) hr hD hc (show m < 100 by omega)
      by_cases hmo : mo c = m
      · rw [tp_hg, if_pos ⟨hc, h5, hmo⟩] at ih
        rw [← ih]
        simp (disch := first | assumption | omega | decide) only [jx_qI_a, jx_qV_a, jx_qL_a, jn_lt, jn_le, jn_eq, jn_L, jn_A, jn_N, jn_LL, jn_add, jn_mul, jn_sub, jn_cl, jn_vin, jn_shl1, jn_shr, jn_or, jn_l_or0, jn_and1, jo_ltT, jo_ltF, jo_leT, jo_leF, jo_eqT, jo_eqF, true_or, or_true, true_and, and_true, false_or, or_false, false_and, and_false, if_true, if_false, not_true_eq_false, not_false_eq_true, jx_tab, eX8_harmTo, hD.2.1, hl, k5, k8]
      · rw [tp_hg, if_neg (fun z => hmo z.2.2)] at ih
        rw [← ih]
        simp (disch := first | assumption | omega | decide) only [jx_qI_a, jx_qV_a, jx_qL_a, jn_lt, jn_le, jn_eq, jn_L, jn_A, jn_N, jn_LL, jn_add, jn_mul, jn_sub, jn_cl, jn_vin, jn_shl1, jn_shr, jn_or, jn_l_or0, jn_and1, jo_ltT, jo_ltF, jo_leT, jo_leF, jo_eqT, jo_eqF, true_or, or_true, true_and, and_true, false_or, or_false, false_and, and_false, if_true, if_false, not_true_eq_false, not_false_eq_true, jx_tab, eX8_harmTo, hD.2.1, k5, k8]
    · rw [tp_hg, if_neg (fun z => h5 z.2.1)] at ih
      rw [← ih]
      simp (disch := first | assumption | omega | decide) only [jx_qI_a, jx_qV_a, jx_qL_a, jn_lt, jn_le, jn_eq, jn_L, jn_A, jn_N, jn_LL, jn_add, jn_mul, jn_sub, jn_cl, jn_vin, jn_shl1, jn_shr, jn_or, jn_l_or0, jn_and1, jo_ltT, jo_ltF, jo_leT, jo_leF, jo_eqT, jo_eqF, true_or, or_true, true_and, and_true, false_or, or_false, false_and, and_false, if_true, if_false, not_true_eq_false, not_false_eq_true, jx_tab, eX8_harmTo, hD.2.1, k5]
theorem tq_harm_lo (hr : tp_rg s) (hD : tp_D M s) {p : Nat} (hp : p < s 0 0) (h8 : ∀ c, c < s 0 1 → s 5 c = p → M 50 c = nI (mo c) ∧ mo c < 100) {Q : jx_Po} : ∀ r m l4 l5, m + r = 4 → (jx_Ev (d + 1) mX8_harmTo 4 [some (.ref 36), some (.int (nI p)), some (.int (nI (tp_h s mo p m))), some (.int (nI m)), l4, l5] [] M Q ↔ Q [.int (nI (tp_h s mo p 4))] M)
  | 0, m, l4, l5, h => by
    have h : m = 4 := h
    subst h
    rw [eX8_harmTo_4]
    simp (disch := first | assumption | omega | decide) only [jx_qI_a, jx_qV_a, jx_qL_a, jn_lt, jn_le, jn_eq, jn_L, jn_A, jn_N, jn_LL, jn_add, jn_mul, jn_sub, jn_cl, jn_vin, jn_shl1, jn_shr, jn_or, jn_l_or0, jn_and1, jo_ltT, jo_ltF, jo_leT, jo_leF, jo_eqT, jo_eqF, true_or, or_true, true_and, and_true, false_or, or_false, false_and, and_false, if_true, if_false, not_true_eq_false, not_false_eq_true, jx_tab, eX8_harmTo]
  | r + 1, m, l4, l5, h => by
    have ih := tq_harm_lo hr hD hp h8 (Q := Q) r (m + 1) (some (.int (nI (tp_hg s mo p m 6)))) (some (.int (nI (s 0 1)))) (by omega)
    have hi := tq_harm_li (d := d) hr hD hp (acc := tp_h s mo p m) (show m < 4 by omega) h8 (Q := Q) (s 0 1) 0 (Nat.zero_add _)
    rw [tp_h] at ih
    rw [tp_hg] at hi
    have n0 : (0 : Int32) = nI 0 := fa_lit 0
    rw [← n0] at hi
    rw [eX8_harmTo_4]
    simp (disch := first | assumption | omega | decide) only [jx_qI_a, jx_qV_a, jx_qL_a, jn_lt, jn_le, jn_eq, jn_L, jn_A, jn_N, jn_LL, jn_add, jn_mul, jn_sub, jn_cl, jn_vin, jn_shl1, jn_shr, jn_or, jn_l_or0, jn_and1, jo_ltT, jo_ltF, jo_leT, jo_leF, jo_eqT, jo_eqF, true_or, or_true, true_and, and_true, false_or, or_false, false_and, and_false, if_true, if_false, not_true_eq_false, not_false_eq_true, jx_tab, eX8_harmTo, hi, ih]
theorem tq_harmTo (hr : tp_rg s) (hD : tp_D M s) {p : Nat} (hp : p < s 0 0) (h8 : ∀ c, c < s 0 1 → s 5 c = p → M 50 c = nI (mo c) ∧ mo c < 100) : jx_I (d + 1) mX8_harmTo [.ref 36, .int (nI p)] M q ↔ q (nI (tp_h s mo p 4)) M := by
  have h := tq_harm_lo (d := d) hr hD hp h8 (Q := jx_qI q) 4 0 none none rfl
  rw [jx_qI_a, tp_h] at h
  simp (disch := first | assumption | omega | decide) only [jx_qI_a, jx_qV_a, jx_qL_a, jn_LL, true_or, or_true, true_and, and_true, false_or, or_false, false_and, and_false, if_true, if_false, not_true_eq_false, not_false_eq_true, jx_tab, kX8_harmTo, eX8_harmTo]
  exact h
theorem tq_tell1 (hr : tp_rg s) (hD : tp_D M s) (h8 : ∀ c, c < s 0 1 → M 50 c = nI (mo c) ∧ mo c < 4) {Q : jx_Po} {l1 l4 l5 l6 : Option Value} : ∀ r c, c + r = s 0 1 → (jx_Ev d mX8_tellOpen 9 [some (.ref 36), l1, some (.int (nI (tp_mt mo c))), some (.int (nI c)), l4, l5, l6] [] M Q ↔ Q [.int (nI (tp_mt mo (s 0 1)))] M)
  | 0, c, h => by
    have h : c = s 0 1 := h
    subst h
    obtain ⟨r1, r2, r3, r4, r5, r6⟩ := id hr
    rw [eX8_tellOpen_9]
    simp (disch := first | assumption | omega | decide) only [jx_qI_a, jx_qV_a, jx_qL_a, jn_lt, jn_le, jn_eq, jn_L, jn_A, jn_N, jn_LL, jn_add, jn_mul, jn_sub, jn_cl, jn_vin, jn_shl1, jn_shr, jn_or, jn_l_or0, jn_and1, jo_ltT, jo_ltF, jo_leT, jo_leF, jo_eqT, jo_eqF, true_or, or_true, true_and, and_true, false_or, or_false, false_and, and_false, if_true, if_false, not_true_eq_false, not_false_eq_true, jx_tab, eX8_tellOpen, hD.2.1]
  | r + 1, c, h => by
    have ih := tq_tell1 hr hD h8 (Q := Q) (l1 := l1) (l4 := l4) (l5 := l5) (l6 := l6) r (c + 1) (by omega)
    obtain ⟨k8, b8⟩ := h8 c (by omega)
    obtain ⟨r1, r2, r3, r4, r5, r6⟩ := id hr
    rw [eX8_tellOpen_9]
    rw [tp_mt] at ih
    simp (disch := first | assumption | omega | decide) only [jx_qI_a, jx_qV_a, jx_qL_a, jn_lt, jn_le, jn_eq, jn_L, jn_A, jn_N, jn_LL, jn_add, jn_mul, jn_sub, jn_cl, jn_vin, jn_shl1, jn_shr, jn_or, jn_l_or0, jn_and1, jo_ltT, jo_ltF, jo_leT, jo_leF, jo_eqT, jo_eqF, true_or, or_true, true_and, and_true, false_or, or_false, false_and, and_false, if_true, if_false, not_true_eq_false, not_false_eq_true, jx_tab, eX8_tellOpen, hD.2.1, k8, ih]
theorem tq_tell2 (hr : tp_rg s) (hD : tp_D M s) (h8 : ∀ c, c < s 0 1 → M 50 c = nI (mo c) ∧ mo c < 100) {Q : jx_Po} {w : Nat} (hw : w < 100) : ∀ r p l6, p + r = s 0 0 → (jx_Ev (d + 2) mX8_tellOpen 76 [some (.ref 36), some (.int (nI w)), some (.int (nI (tp_HS s mo p))), some (.int (nI (tp_mh s mo p).1)), some (.int (tp_mh s mo p).2), some (.int (nI p)), l6] [] M Q ↔ Q [.int (if w = 0 then nI (tp_HS s mo (s 0 0)) else (tp_mh s mo (s 0 0)).2)] M)
  | 0, p, l6, h => by
    have h : p = s 0 0 := h
    subst h
    obtain ⟨r1, r2, r3, r4, r5, r6⟩ := id hr
    rw [eX8_tellOpen_76]
    by_cases hw0 : w = 0
    · simp (disch := first | assumption | omega | decide) only [jx_qI_a, jx_qV_a, jx_qL_a, jn_lt, jn_le, jn_eq, jn_L, jn_A, jn_N, jn_LL, jn_add, jn_mul, jn_sub, jn_cl, jn_vin, jn_shl1, jn_shr, jn_or, jn_l_or0, jn_and1, jo_ltT, jo_ltF, jo_leT, jo_leF, jo_eqT, jo_eqF, true_or, or_true, true_and, and_true, false_or, or_false, false_and, and_false, if_true, if_false, not_true_eq_false, not_false_eq_true, jx_tab, eX8_tellOpen, hD.1]
    · simp (disch := first | assumption | omega | decide) only [jx_qI_a, jx_qV_a, jx_qL_a, jn_lt, jn_le, jn_eq, jn_L, jn_A, jn_N, jn_LL, jn_add, jn_mul, jn_sub, jn_cl, jn_vin, jn_shl1, jn_shr, jn_or, jn_l_or0, jn_and1, jo_ltT, jo_ltF, jo_leT, jo_leF, jo_eqT, jo_eqF, true_or, or_true, true_and, and_true, false_or, or_false, false_and, and_false, if_true, if_false, not_true_eq_false, not_false_eq_true, jx_tab, eX8_tellOpen, hD.1]
  | r + 1, p, l6, h => by
    have ih := tq_tell2 hr hD h8 (Q := Q) hw r (p + 1) (some (.int (nI (tp_H s mo p)))) (by omega)
    have hp : p < s 0 0 := by omega
    have hh := fun d q => tq_harmTo (d := d) (q := q) hr hD hp (fun c hc _ => h8 c hc)
    have b1 := tp_H_le hr (mo := mo) (p := p)
    have b2 := tp_mh_le hr (mo := mo) p
    have eH : tp_h s mo p 4 = tp_H s mo p := by rw [tp_H, if_pos hp]
    rw [eH] at hh
    obtain ⟨r1, r2, r3, r4, r5, r6⟩ := id hr
    rw [eX8_tellOpen_76]
    by_cases hz : (tp_mh s mo p).1 < tp_H s mo p
    · rw [tp_mh, if_pos hz, tp_HS] at ih
      simp (disch := first | assumption | omega | decide) only [jx_qI_a, jx_qV_a, jx_qL_a, jn_lt, jn_le, jn_eq, jn_L, jn_A, jn_N, jn_LL, jn_add, jn_mul, jn_sub, jn_cl, jn_vin, jn_shl1, jn_shr, jn_or, jn_l_or0, jn_and1, jo_ltT, jo_ltF, jo_leT, jo_leF, jo_eqT, jo_eqF, true_or, or_true, true_and, and_true, false_or, or_false, false_and, and_false, if_true, if_false, not_true_eq_false, not_false_eq_true, jx_tab, eX8_tellOpen, hD.1, hh, ih]
    · rw [tp_mh, if_neg hz, tp_HS] at ih
      simp (disch := first | assumption | omega | decide) only [jx_qI_a, jx_qV_a, jx_qL_a, jn_lt, jn_le, jn_eq, jn_L, jn_A, jn_N, jn_LL, jn_add, jn_mul, jn_sub, jn_cl, jn_vin, jn_shl1, jn_shr, jn_or, jn_l_or0, jn_and1, jo_ltT, jo_ltF, jo_leT, jo_leF, jo_eqT, jo_eqF, true_or, or_true, true_and, and_true, false_or, or_false, false_and, and_false, if_true, if_false, not_true_eq_false, not_false_eq_true, jx_tab, eX8_tellOpen, hD.1, hh, ih]
/-- what both tell of openings -/
def tp_oa (s : tp_S) (mo : Nat → Nat) (w : Nat) : Int32 := if w = 0 then nI (tp_HS s mo (s 0 0)) else if w = 1 then nI (tp_mt mo (s 0 1)) else if w = 2 then (tp_mh s mo (s 0 0)).2 else if w - 10 < s 0 0 then nI (tp_H s mo (w - 10)) else -9
theorem tp_answer (ho : tp_O o) (hr : tp_rg s) (e6 : jx_rv (M 0 6) = .ref o) (hC : tp_C M o s) (h8 : ∀ c, c < s 0 1 → M 8 c = nI (mo c) ∧ mo c < 4) {w : Nat} (hw : w ≤ 2 ∨ 10 ≤ w ∧ w < 15) : jx_I (d + 8) mX7_openingsAnswer [.ref 0, .int (nI w)] M q ↔ q (tp_oa s mo w) M := by
  have h8' : ∀ c, c < s 0 1 → M 8 c = nI (mo c) ∧ mo c < 100 := fun c hc => ⟨(h8 c hc).1, by have := (h8 c hc).2; omega⟩
  have t1 := fun d q => tp_harmAll (d := d) (q := q) ho hr hC h8'
  have t2 := fun d q => tp_months (d := d) (q := q) ho hr hC h8
  have t3 := fun d q => tp_most (d := d) (q := q) ho hr hC h8'
  unfold tp_oa
  obtain ⟨o0, o1, o2, o3, o4, o5, z1, z2, z3, z4, z5⟩ := tp_Ot ho
  obtain ⟨r1, r2, r3, r4, r5, r6⟩ := id hr
  rcases (show w = 0 ∨ w = 1 ∨ w = 2 ∨ 10 ≤ w ∧ w < 15 by omega) with rfl | rfl | rfl | hw
  · simp (disch := first | assumption | omega | decide) only [jx_qI_a, jx_qV_a, jx_qL_a, jn_lt, jn_le, jn_eq, jn_L, jn_A, jn_N, jn_LL, jn_add, jn_mul, jn_sub, jn_cl, jn_vin, jn_shl1, jn_shr, jn_or, jn_l_or0, jn_and1, jo_ltT, jo_ltF, jo_leT, jo_leF, jo_eqT, jo_eqF, true_or, or_true, true_and, and_true, false_or, or_false, false_and, and_false, if_true, if_false, not_true_eq_false, not_false_eq_true, jx_tab, kX7_openingsAnswer, eX7_openingsAnswer, e6, t1]
  · simp (disch := first | assumption | omega | decide) only [jx_qI_a, jx_qV_a, jx_qL_a, jn_lt, jn_le, jn_eq, jn_L, jn_A, jn_N, jn_LL, jn_add, jn_mul, jn_sub, jn_cl, jn_vin, jn_shl1, jn_shr, jn_or, jn_l_or0, jn_and1, jo_ltT, jo_ltF, jo_leT, jo_leF, jo_eqT, jo_eqF, true_or, or_true, true_and, and_true, false_or, or_false, false_and, and_false, if_true, if_false, not_true_eq_false, not_false_eq_true, jx_tab, kX7_openingsAnswer, eX7_openingsAnswer, e6, t2]
  · simp (disch := first | assumption | omega | decide) only [jx_qI_a, jx_qV_a, jx_qL_a, jn_lt, jn_le, jn_eq, jn_L, jn_A, jn_N, jn_LL, jn_add, jn_mul, jn_sub, jn_cl, jn_vin, jn_shl1, jn_shr, jn_or, jn_l_or0, jn_and1, jo_ltT, jo_ltF, jo_leT, jo_leF, jo_eqT, jo_eqF, true_or, or_true, true_and, and_true, false_or, or_false, false_and, and_false, if_true, if_false, not_true_eq_false, not_false_eq_true, jx_tab, kX7_openingsAnswer, eX7_openingsAnswer, e6, t3]
  · rw [if_neg (by omega), if_neg (by omega), if_neg (by omega)]
    by_cases hp : w - 10 < s 0 0
    · have g := fun d q => tp_hasPerson_y (d := d) (q := q) ho hr hC hp
      have t4 := fun d q => tp_harmTo (d := d) (q := q) (p := w - 10) ho hr hC (by omega) (fun c hc _ => h8' c hc)
      rw [if_pos hp]
      simp (disch := first | assumption | omega | decide) only [jx_qI_a, jx_qV_a, jx_qL_a, jn_lt, jn_le, jn_eq, jn_L, jn_A, jn_N, jn_LL, jn_add, jn_mul, jn_sub, jn_cl, jn_vin, jn_shl1, jn_shr, jn_or, jn_l_or0, jn_and1, jo_ltT, jo_ltF, jo_leT, jo_leF, jo_eqT, jo_eqF, true_or, or_true, true_and, and_true, false_or, or_false, false_and, and_false, if_true, if_false, not_true_eq_false, not_false_eq_true, jx_tab, kX7_openingsAnswer, eX7_openingsAnswer, e6, g, t4]
    · have g := fun d q => tp_hasPerson_n (d := d) (q := q) (x := nI (w - 10)) ho hr hC (Or.inr ((jn_le (by omega) (by omega)).mpr (by omega)))
      rw [if_neg hp]
      simp (disch := first | assumption | omega | decide) only [jx_qI_a, jx_qV_a, jx_qL_a, jn_lt, jn_le, jn_eq, jn_L, jn_A, jn_N, jn_LL, jn_add, jn_mul, jn_sub, jn_cl, jn_vin, jn_shl1, jn_shr, jn_or, jn_l_or0, jn_and1, jo_ltT, jo_ltF, jo_leT, jo_leF, jo_eqT, jo_eqF, true_or, or_true, true_and, and_true, false_or, or_false, false_and, and_false, if_true, if_false, not_true_eq_false, not_false_eq_true, jx_tab, kX7_openingsAnswer, eX7_openingsAnswer, e6, g]
theorem tq_answer (hr : tp_rg s) (hD : tp_D M s) (h8 : ∀ c, c < s 0 1 → M 50 c = nI (mo c) ∧ mo c < 4) {w : Nat} (hw : w ≤ 2 ∨ 10 ≤ w ∧ w < 15) : jx_I (d + 8) mX8_tellOpen [.ref 36, .int (nI w)] M q ↔ q (tp_oa s mo w) M := by
  have h8' : ∀ c, c < s 0 1 → M 50 c = nI (mo c) ∧ mo c < 100 := fun c hc => ⟨(h8 c hc).1, by have := (h8 c hc).2; omega⟩
  unfold tp_oa
  obtain ⟨r1, r2, r3, r4, r5, r6⟩ := id hr
  have n0 : (0 : Int32) = nI 0 := fa_lit 0
  rcases (show w = 0 ∨ w = 1 ∨ w = 2 ∨ 10 ≤ w ∧ w < 15 by omega) with rfl | rfl | rfl | hw
  · have t := tq_tell2 (d := d + 6) hr hD h8' (Q := jx_qI q) (w := 0) (by decide) (s 0 0) 0 none (Nat.zero_add _)
    rw [jx_qI_a] at t
    simp (disch := first | assumption | omega | decide) only [jx_qI_a, jx_qV_a, jx_qL_a, jn_lt, jn_le, jn_eq, jn_L, jn_A, jn_N, jn_LL, jn_add, jn_mul, jn_sub, jn_cl, jn_vin, jn_shl1, jn_shr, jn_or, jn_l_or0, jn_and1, jo_ltT, jo_ltF, jo_leT, jo_leF, jo_eqT, jo_eqF, true_or, or_true, true_and, and_true, false_or, or_false, false_and, and_false, if_true, if_false, not_true_eq_false, not_false_eq_true, jx_tab, kX8_tellOpen, eX8_tellOpen]
    exact t
  · have t := tq_tell1 (d := d + 8) hr hD h8 (Q := jx_qI q) (l1 := some (.int (nI 1))) (l4 := none) (l5 := none) (l6 := none) (s 0 1) 0 (Nat.zero_add _)
    rw [jx_qI_a] at t
    simp (disch := first | assumption | omega | decide) only [jx_qI_a, jx_qV_a, jx_qL_a, jn_lt, jn_le, jn_eq, jn_L, jn_A, jn_N, jn_LL, jn_add, jn_mul, jn_sub, jn_cl, jn_vin, jn_shl1, jn_shr, jn_or, jn_l_or0, jn_and1, jo_ltT, jo_ltF, jo_leT, jo_leF, jo_eqT, jo_eqF, true_or, or_true, true_and, and_true, false_or, or_false, false_and, and_false, if_true, if_false, not_true_eq_false, not_false_eq_true, jx_tab, kX8_tellOpen, eX8_tellOpen]
    exact t
  · have t := tq_tell2 (d := d + 6) hr hD h8' (Q := jx_qI q) (w := 2) (by decide) (s 0 0) 0 none (Nat.zero_add _)
    rw [jx_qI_a] at t
    simp (disch := first | assumption | omega | decide) only [jx_qI_a, jx_qV_a, jx_qL_a, jn_lt, jn_le, jn_eq, jn_L, jn_A, jn_N, jn_LL, jn_add, jn_mul, jn_sub, jn_cl, jn_vin, jn_shl1, jn_shr, jn_or, jn_l_or0, jn_and1, jo_ltT, jo_ltF, jo_leT, jo_leF, jo_eqT, jo_eqF, true_or, or_true, true_and, and_true, false_or, or_false, false_and, and_false, if_true, if_false, not_true_eq_false, not_false_eq_true, jx_tab, kX8_tellOpen, eX8_tellOpen]
    exact t
  · rw [if_neg (by omega), if_neg (by omega), if_neg (by omega)]
    by_cases hp : w - 10 < s 0 0
    · have g := fun d q => tq_isPerson_y (d := d) (q := q) hr hD hp
      have t4 := fun d q => tq_harmTo (d := d) (q := q) hr hD hp (fun c hc _ => h8' c hc)
      rw [if_pos hp, tp_H, if_pos hp]
      simp (disch := first | assumption | omega | decide) only [jx_qI_a, jx_qV_a, jx_qL_a, jn_lt, jn_le, jn_eq, jn_L, jn_A, jn_N, jn_LL, jn_add, jn_mul, jn_sub, jn_cl, jn_vin, jn_shl1, jn_shr, jn_or, jn_l_or0, jn_and1, jo_ltT, jo_ltF, jo_leT, jo_leF, jo_eqT, jo_eqF, true_or, or_true, true_and, and_true, false_or, or_false, false_and, and_false, if_true, if_false, not_true_eq_false, not_false_eq_true, jx_tab, kX8_tellOpen, eX8_tellOpen, g, t4]
    · have g := fun d q => tq_isPerson_n (d := d) (q := q) (x := nI (w - 10)) hr hD (Or.inr ((jn_le (by omega) (by omega)).mpr (by omega)))
      rw [if_neg hp]
      simp (disch := first | assumption | omega | decide) only [jx_qI_a, jx_qV_a, jx_qL_a, jn_lt, jn_le, jn_eq, jn_L, jn_A, jn_N, jn_LL, jn_add, jn_mul, jn_sub, jn_cl, jn_vin, jn_shl1, jn_shr, jn_or, jn_l_or0, jn_and1, jo_ltT, jo_ltF, jo_leT, jo_leF, jo_eqT, jo_eqF, true_or, or_true, true_and, and_true, false_or, or_false, false_and, and_false, if_true, if_false, not_true_eq_false, not_false_eq_true, jx_tab, kX8_tellOpen, eX8_tellOpen, g]
end TPP
