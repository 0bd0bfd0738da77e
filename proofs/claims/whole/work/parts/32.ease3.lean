/-! ease: the reference, and the call -/
def te_en (b : te_B) : Int32 := if b.1 = 2147483647 then -9 else nI b.1
def te_fo (M : jx_M) (s : tp_S) (p : Nat) (b : te_B) : Prop := b.1 < 2147483647 → ∀ j, j < s 0 1 → M 51 j = (if s 5 j = p then nI (b.2 j) else -9)
section TE3
variable {d : Nat} {s : tp_S}
theorem jm_s1 (k : Nat) : nI (k + 1) - 1 = jm (k + 1) := by
  have h : (-1 : Int32) = - (1 : Int32) := by decide
  rw [Int32.sub_eq_add_neg, ← h, jm_dec]
theorem te_bit0 {s : tp_S} {p c : Nat} (hc : c < s 0 1) (hC : s 0 1 ≤ 6) : (tp_cf s p 6 / 2 ^ c % 2 = 1 ↔ s 5 c = p) ∧ tp_cf s p 6 / 2 ^ c < 2147483648 ∧ tp_cf s p 6 / 2 ^ c % 2 < 2 := by
  refine ⟨?_, ?_, Nat.mod_lt _ (by decide)⟩
  · rw [te_cf_bit]
    constructor
    · intro z; exact z.2.2
    · intro z; exact ⟨by omega, hc, z⟩
  · have := tp_cf_lt s p 6
    exact Nat.lt_of_le_of_lt (Nat.div_le_self _ _) (by omega)
theorem tq_fe_a (hr : tp_rg s) {M : jx_M} (hD : tp_D M s) {p : Nat} {l1 : Option Value} {Q : jx_Po} : ∀ t c, c + t = s 0 1 → (jx_Ev (d + 3) mX8_findEase 11 [some (.ref 36), l1, some (.int (nI (tp_cf s p 6))), some (.int (nI (te_rw s p c))), some (.int (nI c)), none, none, none, none] [] M Q ↔ jx_Ev (d + 3) mX8_findEase 51 [some (.ref 36), l1, some (.int (nI (tp_cf s p 6))), some (.int (nI (te_rw s p (s 0 1)))), some (.int (-9)), some (.int 0), none, none, none] [] M Q)
  | 0, c, h => by
    have h : c = s 0 1 := h
    subst h
    have r2 := hr.2.1
    rw [eX8_findEase_11]
    simp (disch := first | assumption | omega | decide) only [jx_qI_a, jx_qV_a, jx_qL_a, jn_lt, jn_le, jn_eq, jn_L, jn_A, jn_N, jn_LL, jn_add, jn_mul, jn_sub, jn_cl, jn_vin, jn_shl1, jn_shr, jn_or, jn_l_or0, jn_and1, jo_ltT, jo_ltF, jo_leT, jo_leF, jo_eqT, jo_eqF, true_or, or_true, true_and, and_true, false_or, or_false, false_and, and_false, if_true, if_false, not_true_eq_false, not_false_eq_true, jx_tab, eX8_findEase, hD.2.1]
  | t + 1, c, h => by
    have ih := tq_fe_a hr hD (p := p) (l1 := l1) (Q := Q) t (c + 1) (by omega)
    have r2 := hr.2.1
    obtain ⟨b1, b2, b3⟩ := te_bit0 (s := s) (p := p) (c := c) (by omega) r2
    have hcf := tp_cf_lt s p 6
    rw [te_rw] at ih
    rw [eX8_findEase_11]
    by_cases h5 : s 5 c = p
    · have b4 := b1.mpr h5
      rw [if_pos ⟨by omega, h5⟩] at ih
      simp (disch := first | assumption | omega | decide) only [jx_qI_a, jx_qV_a, jx_qL_a, jn_lt, jn_le, jn_eq, jn_L, jn_A, jn_N, jn_LL, jn_add, jn_mul, jn_sub, jn_cl, jn_vin, jn_shl1, jn_shr, jn_or, jn_l_or0, jn_and1, jo_ltT, jo_ltF, jo_leT, jo_leF, jo_eqT, jo_eqF, true_or, or_true, true_and, and_true, false_or, or_false, false_and, and_false, if_true, if_false, not_true_eq_false, not_false_eq_true, jx_tab, eX8_findEase, hD.2.1, ih]
    · have b4 : ¬ tp_cf s p 6 / 2 ^ c % 2 = 1 := fun z => h5 (b1.mp z)
      rw [if_neg (fun z => h5 z.2)] at ih
      simp (disch := first | assumption | omega | decide) only [jx_qI_a, jx_qV_a, jx_qL_a, jn_lt, jn_le, jn_eq, jn_L, jn_A, jn_N, jn_LL, jn_add, jn_mul, jn_sub, jn_cl, jn_vin, jn_shl1, jn_shr, jn_or, jn_l_or0, jn_and1, jo_ltT, jo_ltF, jo_leT, jo_leF, jo_eqT, jo_eqF, true_or, or_true, true_and, and_true, false_or, or_false, false_and, and_false, if_true, if_false, not_true_eq_false, not_false_eq_true, jx_tab, eX8_findEase, hD.2.1, ih]
theorem tq_fe_d (hr : tp_rg s) {p num : Nat} {l1 l3 l4 l8 : Option Value} (hnum : num < 5000) {Q : jx_Po} : ∀ k (M : jx_M), k ≤ s 0 1 → tp_D M s → (∀ j, k ≤ j → j < s 0 1 → M 50 j = (if s 5 j = p then nI (te_a s p num j) else -9)) → (∀ (M' : jx_M) (l6 : Option Value), (∀ a b, a ≠ 50 → M' a b = M a b) → (∀ j, j < s 0 1 → M' 50 j = (if s 5 j = p then nI (te_a s p num j) else -9)) → jx_Ev (d + 3) mX8_findEase 127 [some (.ref 36), l1, some (.int (nI (tp_cf s p 6))), l3, l4, some (.int (nI num)), l6, some (.int (-1)), l8] [] M' Q) → jx_Ev (d + 3) mX8_findEase 69 [some (.ref 36), l1, some (.int (nI (tp_cf s p 6))), l3, l4, some (.int (nI num)), some (.int (nI (num / 4 ^ te_n s p k (6 - k)))), some (.int (jm k)), l8] [] M Q
  | 0, M, hk, hD, h50, kk => by
    have g := kk M (some (.int (nI (num / 4 ^ te_n s p 0 (6 - 0))))) (fun _ _ _ => rfl) (fun j hj => h50 j (Nat.zero_le j) hj)
    have hiff : jx_Ev (d + 3) mX8_findEase 69 [some (.ref 36), l1, some (.int (nI (tp_cf s p 6))), l3, l4, some (.int (nI num)), some (.int (nI (num / 4 ^ te_n s p 0 (6 - 0)))), some (.int (-1)), l8] [] M Q ↔ jx_Ev (d + 3) mX8_findEase 127 [some (.ref 36), l1, some (.int (nI (tp_cf s p 6))), l3, l4, some (.int (nI num)), some (.int (nI (num / 4 ^ te_n s p 0 (6 - 0)))), some (.int (-1)), l8] [] M Q := by
      rw [eX8_findEase_69]
      generalize num / 4 ^ te_n s p 0 (6 - 0) = z
      simp (disch := first | assumption | omega | decide) only [eX8_findEase, jn_LL, if_true, if_false]
    exact hiff.mpr g
  | k + 1, M, hk, hD, h50, kk => by
    have r2 := hr.2.1
    obtain ⟨b1, b2, b3⟩ := te_bit0 (s := s) (p := p) (c := k) (by omega) r2
    have hcf := tp_cf_lt s p 6
    have hL : num / 4 ^ te_n s p (k + 1) (6 - (k + 1)) < 5000 := Nat.lt_of_le_of_lt (Nat.div_le_self _ _) hnum
    have en : te_n s p k (6 - k) = (if k < s 0 1 ∧ s 5 k = p then 1 else 0) + te_n s p (k + 1) (6 - (k + 1)) := by
      rw [show 6 - k = (6 - (k + 1)) + 1 by omega, te_n]
    have ea : te_a s p num k = num / 4 ^ te_n s p (k + 1) (6 - (k + 1)) % 4 := by
      unfold te_a
      rw [show 5 - k = 6 - (k + 1) by omega]
    have n4 : (4 : Int32) = nI 4 := fa_lit 4
    generalize hLe : num / 4 ^ te_n s p (k + 1) (6 - (k + 1)) = L at hL ea
    have d1 : nI L / 4 = nI (L / 4) := by rw [n4]; exact pk_div (by omega) (by decide) (by decide)
    have m1 : L - L / 4 * 4 = L % 4 := by omega
    rw [eX8_findEase_69]
    show jx_Ev (d + 3) mX8_findEase 71 [some (.ref 36), l1, some (.int (nI (tp_cf s p 6))), l3, l4, some (.int (nI num)), some (.int (nI L)), some (.int (nI k)), l8] [.int (nI k)] M Q
    by_cases h5 : s 5 k = p
    · have b4 := b1.mpr h5
      have ih := tq_fe_d hr (l1 := l1) (l3 := l3) (l4 := l4) (l8 := l8) hnum (Q := Q) k (jx_up M 50 k (nI (L % 4))) (by omega) (tp_D_fr hD (fun b q1 q2 => by rw [jx_upE, if_neg (by omega)]) (fun a b q1 q2 => by rw [jx_upE, if_neg (by omega)])) (fun j h1 h2 => by
        rw [jx_upE]
        by_cases e : j = k
        · rw [if_pos ⟨rfl, e⟩, e, if_pos h5, ea]
        · rw [if_neg (by omega)]; exact h50 j (by omega) h2) (fun M' l6 e1 e2 => kk M' l6 (fun a b z => by rw [e1 a b z, jx_upE, if_neg (by omega)]) e2)
      have eL : num / 4 ^ te_n s p k (6 - k) = L / 4 := by
        rw [en, if_pos ⟨by omega, h5⟩, Nat.add_comm, Nat.pow_succ, ← Nat.div_div_eq_div_mul, hLe]
      rw [eL] at ih
      simp (disch := first | assumption | omega | decide) only [jx_qI_a, jx_qV_a, jx_qL_a, jn_lt, jn_le, jn_eq, jn_L, jn_A, jn_N, jn_LL, jn_add, jn_mul, jn_sub, jn_cl, jn_vin, jn_shl1, jn_shr, jn_or, jn_l_or0, jn_and1, jo_ltT, jo_ltF, jo_leT, jo_leF, jo_eqT, jo_eqF, true_or, or_true, true_and, and_true, false_or, or_false, false_and, and_false, if_true, if_false, not_true_eq_false, not_false_eq_true, jx_tab, eX8_findEase, d1, m1, jm_dec, ih]
    · have b4 : ¬ tp_cf s p 6 / 2 ^ k % 2 = 1 := fun z => h5 (b1.mp z)
      have ih := tq_fe_d hr (l1 := l1) (l3 := l3) (l4 := l4) (l8 := l8) hnum (Q := Q) k (jx_up M 50 k (-9)) (by omega) (tp_D_fr hD (fun b q1 q2 => by rw [jx_upE, if_neg (by omega)]) (fun a b q1 q2 => by rw [jx_upE, if_neg (by omega)])) (fun j h1 h2 => by
        rw [jx_upE]
        by_cases e : j = k
        · rw [if_pos ⟨rfl, e⟩, e, if_neg h5]
        · rw [if_neg (by omega)]; exact h50 j (by omega) h2) (fun M' l6 e1 e2 => kk M' l6 (fun a b z => by rw [e1 a b z, jx_upE, if_neg (by omega)]) e2)
      have eL : num / 4 ^ te_n s p k (6 - k) = L := by
        rw [en, if_neg (fun z => h5 z.2), Nat.zero_add, hLe]
      rw [eL] at ih
      simp (disch := first | assumption | omega | decide) only [jx_qI_a, jx_qV_a, jx_qL_a, jn_lt, jn_le, jn_eq, jn_L, jn_A, jn_N, jn_LL, jn_add, jn_mul, jn_sub, jn_cl, jn_vin, jn_shl1, jn_shr, jn_or, jn_l_or0, jn_and1, jo_ltT, jo_ltF, jo_leT, jo_leF, jo_eqT, jo_eqF, true_or, or_true, true_and, and_true, false_or, or_false, false_and, and_false, if_true, if_false, not_true_eq_false, not_false_eq_true, jx_tab, eX8_findEase, jm_dec, ih]
theorem tq_fe_c (hr : tp_rg s) {num : Nat} {l1 l2 l3 l4 l6 l7 : Option Value} {Q : jx_Po} : ∀ t c (M : jx_M), c + t = s 0 1 → tp_D M s → (∀ j, j < c → M 51 j = M 50 j) → (∀ (M' : jx_M), (∀ a b, a ≠ 51 → M' a b = M a b) → (∀ j, j < s 0 1 → M' 51 j = M 50 j) → jx_Ev (d + 3) mX8_findEase 51 [some (.ref 36), l1, l2, l3, l4, some (.int (nI (num + 1))), l6, l7, some (.int (nI (s 0 1)))] [] M' Q) → jx_Ev (d + 3) mX8_findEase 155 [some (.ref 36), l1, l2, l3, l4, some (.int (nI num)), l6, l7, some (.int (nI c))] [] M Q
  | 0, c, M, h, hD, h51, kk => by
    have h : c = s 0 1 := h
    subst h
    have r2 := hr.2.1
    have g := kk M (fun _ _ _ => rfl) h51
    rw [eX8_findEase_155]
    simp (disch := first | assumption | omega | decide) only [jx_qI_a, jx_qV_a, jx_qL_a, jn_lt, jn_le, jn_eq, jn_L, jn_A, jn_N, jn_LL, jn_add, jn_mul, jn_sub, jn_cl, jn_vin, jn_shl1, jn_shr, jn_or, jn_l_or0, jn_and1, jo_ltT, jo_ltF, jo_leT, jo_leF, jo_eqT, jo_eqF, true_or, or_true, true_and, and_true, false_or, or_false, false_and, and_false, if_true, if_false, not_true_eq_false, not_false_eq_true, jx_tab, eX8_findEase, hD.2.1, g]
  | t + 1, c, M, h, hD, h51, kk => by
    have r2 := hr.2.1
    have ih := tq_fe_c hr (num := num) (l1 := l1) (l2 := l2) (l3 := l3) (l4 := l4) (l6 := l6) (l7 := l7) (Q := Q) t (c + 1) (jx_up M 51 c (M 50 c)) (by omega) (tp_D_fr hD (fun b q1 q2 => by rw [jx_upE, if_neg (by omega)]) (fun a b q1 q2 => by rw [jx_upE, if_neg (by omega)])) (fun j hj => by
      rw [jx_upE, jx_upE]
      by_cases e : j = c
      · rw [if_pos ⟨rfl, e⟩, if_neg (by omega), e]
      · rw [if_neg (by omega), if_neg (by omega)]; exact h51 j (by omega)) (fun M' e1 e2 => kk M' (fun a b z => by rw [e1 a b z, jx_upE, if_neg (by omega)]) (fun j hj => by rw [e2 j hj, jx_upE, if_neg (by omega)]))
    rw [eX8_findEase_155]
    simp (disch := first | assumption | omega | decide) only [jx_qI_a, jx_qV_a, jx_qL_a, jn_lt, jn_le, jn_eq, jn_L, jn_A, jn_N, jn_LL, jn_add, jn_mul, jn_sub, jn_cl, jn_vin, jn_shl1, jn_shr, jn_or, jn_l_or0, jn_and1, jo_ltT, jo_ltF, jo_leT, jo_leF, jo_eqT, jo_eqF, true_or, or_true, true_and, and_true, false_or, or_false, false_and, and_false, if_true, if_false, not_true_eq_false, not_false_eq_true, jx_tab, eX8_findEase, hD.2.1, ih]
theorem tq_fe_m (hr : tp_rg s) {p R : Nat} (hp : p < s 0 0) (hR : R ≤ 4096) {Q : jx_Po} : ∀ t num b (M : jx_M) (l6 l7 l8 : Option Value), num + t = R → tp_D M s → te_fo M s p b → b.1 ≤ 2147483647 → (∀ M' : jx_M, (∀ a b, a ≠ 50 → a ≠ 51 → M' a b = M a b) → te_fo M' s p (te_G s p (te_a s p) num t b) → Q [.int (te_en (te_G s p (te_a s p) num t b))] M') → jx_Ev (d + 3) mX8_findEase 51 [some (.ref 36), some (.int (nI p)), some (.int (nI (tp_cf s p 6))), some (.int (nI R)), some (.int (te_en b)), some (.int (nI num)), l6, l7, l8] [] M Q
  | 0, num, b, M, l6, l7, l8, h, hD, hfo, hb, kk => by
    have h : num = R := h
    subst h
    have g := kk M (fun _ _ _ _ => rfl) hfo
    rw [te_G] at g
    rw [eX8_findEase_51]
    simp (disch := first | assumption | omega | decide) only [jx_qI_a, jx_qV_a, jx_qL_a, jn_lt, jn_le, jn_eq, jn_L, jn_A, jn_N, jn_LL, jn_add, jn_mul, jn_sub, jn_cl, jn_vin, jn_shl1, jn_shr, jn_or, jn_l_or0, jn_and1, jo_ltT, jo_ltF, jo_leT, jo_leF, jo_eqT, jo_eqF, true_or, or_true, true_and, and_true, false_or, or_false, false_and, and_false, if_true, if_false, not_true_eq_false, not_false_eq_true, jx_tab, eX8_findEase, g]
  | t + 1, num, b, M, l6, l7, l8, h, hD, hfo, hb, kk => by
    have r2 := hr.2.1
    have h2R : ¬ nI R ≤ nI num := fun z => by
      have := (jn_le (by omega) (by omega)).mp z
      omega
    rw [te_G] at kk
    have hhc : te_hc s (te_a s p num) p 6 ≤ 432 * 4 := te_hc_le hr (c := 6) (by decide) 4 (by decide)
    have hdec : jx_Ev (d + 3) mX8_findEase 69 [some (.ref 36), some (.int (nI p)), some (.int (nI (tp_cf s p 6))), some (.int (nI R)), some (.int (te_en b)), some (.int (nI num)), some (.int (nI num)), some (.int (jm (s 0 1))), l8] [] M Q := by
      have en : te_n s p (s 0 1) (6 - s 0 1) = 0 := by
        have : ∀ r c, s 0 1 ≤ c → te_n s p c r = 0 := by
          intro r
          induction r with
          | zero => intro c _; rfl
          | succ r ih => intro c hc; rw [te_n, if_neg (by omega), ih (c + 1) (by omega)]
        exact this _ _ (Nat.le_refl _)
      have g := tq_fe_d (d := d) hr (p := p) (num := num) (l1 := some (.int (nI p))) (l3 := some (.int (nI R))) (l4 := some (.int (te_en b))) (l8 := l8) (by omega) (Q := Q) (s 0 1) M (Nat.le_refl _) hD (fun j h1 h2 => by omega)
      rw [en, Nat.pow_zero, Nat.div_one] at g
      refine g (fun M1 l6' e1 e2 => ?_)
      have hD1 : tp_D M1 s := tp_D_fr hD (fun b q1 q2 => e1 _ _ (by decide)) (fun a b q1 q2 => e1 _ _ (by omega))
      have hh := fun d q => tq_harmTo (d := d) (q := q) (mo := te_a s p num) hr hD1 hp (fun c hc h5 => by
        have := e2 c hc
        rw [if_pos h5] at this
        exact ⟨this, by have : te_a s p num c < 4 := Nat.mod_lt _ (by decide); omega⟩)
      rw [te_hs_h] at hh
      have hh' : ∀ (d : Nat) (q : Int32 → jx_M → Prop), jx_I (d + 1) mX8_harmTo [.ref 36, .int (nI p)] M1 q ↔ q (nI (te_hc s (te_a s p num) p 6)) M1 := hh
      by_cases hz : te_hc s (te_a s p num) p 6 < b.1
      · have eU : te_U s p b (te_a s p num) = (te_hc s (te_a s p num) p 6, te_a s p num) := by rw [te_U, if_pos hz]
        rw [eU] at kk
        have hcp := tq_fe_c (d := d) hr (num := num) (l1 := some (.int (nI p))) (l2 := some (.int (nI (tp_cf s p 6)))) (l3 := some (.int (nI R))) (l4 := some (.int (nI (te_hc s (te_a s p num) p 6)))) (l6 := l6') (l7 := some (.int (nI (te_hc s (te_a s p num) p 6)))) (Q := Q) (s 0 1) 0 M1 (Nat.zero_add _) hD1 (fun j hj => by omega) (fun M2 f1 f2 => by
          have een : te_en (te_hc s (te_a s p num) p 6, te_a s p num) = nI (te_hc s (te_a s p num) p 6) := by
            rw [te_en, if_neg (by show ¬ te_hc s (te_a s p num) p 6 = 2147483647; omega)]
          have ih := tq_fe_m hr hp hR (Q := Q) t (num + 1) (te_hc s (te_a s p num) p 6, te_a s p num) M2 l6' (some (.int (nI (te_hc s (te_a s p num) p 6)))) (some (.int (nI (s 0 1)))) (by omega) (tp_D_fr hD1 (fun b q1 q2 => f1 _ _ (by decide)) (fun a b q1 q2 => f1 _ _ (by omega))) (fun _ j hj => by rw [f2 j hj]; exact e2 j hj) (by show te_hc s (te_a s p num) p 6 ≤ 2147483647; omega) (fun M' g1 g2 => kk M' (fun a b z1 z2 => by rw [g1 a b z1 z2, f1 a b z2, e1 a b z1]) g2)
          rw [een] at ih
          exact ih)
        have n0 : nI 0 = (0 : Int32) := (fa_lit 0).symm
        rw [n0] at hcp
        by_cases hmx : b.1 = 2147483647
        · have eb : te_en b = -9 := by rw [te_en, if_pos hmx]
          rw [eb]
          simp (disch := first | assumption | omega | decide) only [jx_qI_a, jx_qV_a, jx_qL_a, jn_lt, jn_le, jn_eq, jn_L, jn_A, jn_N, jn_LL, jn_add, jn_mul, jn_sub, jn_cl, jn_vin, jn_shl1, jn_shr, jn_or, jn_l_or0, jn_and1, jo_ltT, jo_ltF, jo_leT, jo_leF, jo_eqT, jo_eqF, true_or, or_true, true_and, and_true, false_or, or_false, false_and, and_false, if_true, if_false, not_true_eq_false, not_false_eq_true, jx_tab, eX8_findEase, hh']
          exact hcp
        · have eb : te_en b = nI b.1 := by rw [te_en, if_neg hmx]
          rw [eb]
          simp (disch := first | assumption | omega | decide) only [jx_qI_a, jx_qV_a, jx_qL_a, jn_lt, jn_le, jn_eq, jn_L, jn_A, jn_N, jn_LL, jn_add, jn_mul, jn_sub, jn_cl, jn_vin, jn_shl1, jn_shr, jn_or, jn_l_or0, jn_and1, jo_ltT, jo_ltF, jo_leT, jo_leF, jo_eqT, jo_eqF, true_or, or_true, true_and, and_true, false_or, or_false, false_and, and_false, if_true, if_false, not_true_eq_false, not_false_eq_true, jx_tab, eX8_findEase, hh']
          exact hcp
      · have eU : te_U s p b (te_a s p num) = b := by rw [te_U, if_neg hz]
        rw [eU] at kk
        have eb : te_en b = nI b.1 := by rw [te_en, if_neg (by omega)]
        have ih := tq_fe_m hr hp hR (Q := Q) t (num + 1) b M1 l6' (some (.int (nI (te_hc s (te_a s p num) p 6)))) l8 (by omega) hD1 (fun z j hj => by rw [e1 _ _ (by decide)]; exact hfo z j hj) hb (fun M' g1 g2 => kk M' (fun a b z1 z2 => by rw [g1 a b z1 z2, e1 a b z1]) g2)
        rw [eb] at ih ⊢
        simp (disch := first | assumption | omega | decide) only [jx_qI_a, jx_qV_a, jx_qL_a, jn_lt, jn_le, jn_eq, jn_L, jn_A, jn_N, jn_LL, jn_add, jn_mul, jn_sub, jn_cl, jn_vin, jn_shl1, jn_shr, jn_or, jn_l_or0, jn_and1, jo_ltT, jo_ltF, jo_leT, jo_leF, jo_eqT, jo_eqF, true_or, or_true, true_and, and_true, false_or, or_false, false_and, and_false, if_true, if_false, not_true_eq_false, not_false_eq_true, jx_tab, eX8_findEase, hh', ih]
    have ej : nI (s 0 1) - 1 = jm (s 0 1) := by
      cases s 0 1 with
      | zero => decide
      | succ k => exact jm_s1 k
    rw [eX8_findEase_51]
    simp (disch := first | assumption | omega | decide) only [jx_qI_a, jx_qV_a, jx_qL_a, jn_LL, true_or, or_true, true_and, and_true, false_or, or_false, false_and, and_false, if_true, if_false, not_true_eq_false, not_false_eq_true, jx_tab, eX8_findEase, hD.2.1, ej, h2R, hdec]
theorem tq_findEase (hr : tp_rg s) {M : jx_M} (hD : tp_D M s) {p : Nat} (hp : p < s 0 0) {q : Int32 → jx_M → Prop} (b0 : Nat → Nat) (kk : ∀ M' : jx_M, (∀ a b, a ≠ 50 → a ≠ 51 → M' a b = M a b) → te_fo M' s p (te_G s p (te_a s p) 0 (4 ^ te_n s p 0 6) (2147483647, b0)) → q (te_en (te_G s p (te_a s p) 0 (4 ^ te_n s p 0 6) (2147483647, b0))) M') : jx_I (d + 3) mX8_findEase [.ref 36, .int (nI p)] M q := by
  have r1 := hr.1
  have r2 := hr.2.1
  have g1 := fun d q => tq_clapsOf (d := d) (q := q) hr hD (show p < 100 by omega)
  have hle : te_rw s p (s 0 1) ≤ 4096 := Nat.le_trans (te_rw_le s p (s 0 1) r2) (Nat.le_trans (Nat.pow_le_pow_right (by decide) r2) (by decide))
  have gm := tq_fe_m (d := d) hr hp hle (Q := jx_qI q) (te_rw s p (s 0 1)) 0 (2147483647, b0) M none none none (Nat.zero_add _) hD (fun z => absurd z (by show ¬ (2147483647 : Nat) < 2147483647; decide)) (Nat.le_refl _) (fun M' e1 e2 => by
    rw [jx_qI_a]
    rw [te_rw_all r2] at e2 ⊢
    exact kk M' e1 e2)
  have ga := tq_fe_a (d := d) hr hD (p := p) (l1 := some (.int (nI p))) (Q := jx_qI q) (s 0 1) 0 (Nat.zero_add _)
  have eb : te_en (2147483647, b0) = -9 := by rw [te_en, if_pos rfl]
  rw [eb] at gm
  have g := ga.mpr gm
  simp (disch := first | assumption | omega | decide) only [kX8_findEase, ↓eX8_findEase, ↓g1]
  exact g
theorem tp_findLeast {o : Nat} (ho : tp_O o) (hr : tp_rg s) {M : jx_M} (hC : tp_C M o s) {p : Nat} (hp : p < s 0 0) {qv : jx_M → Prop} (mo b0 : Nat → Nat) (kk : ∀ M' : jx_M, (∀ a b, a ≠ 9 → a ≠ 10 → a ≠ 11 → a ≠ 12 → M' a b = M a b) → te_E M' s o p 0 mo (te_F s p 6 0 mo (2147483647, b0)) → qv M') : jx_V (d + 11) mX0_findLeast [.ref 9, .ref o, .int (nI p)] M qv := by
  have hoo : o = 16 ∨ o = 22 := ho
  have ho56 : o < 56 := by omega
  have nM : (2147483647 : Int32) = nI 2147483647 := fa_lit 2147483647
  have n0 : (0 : Int32) = nI 0 := fa_lit 0
  have key : ∀ t m (N : jx_M), m + t = 4 → (∀ a b, a ≠ 9 → a ≠ 12 → N a b = M a b) → N 9 1 = nI 2147483647 → N 9 4 = nI o → N 9 5 = nI p → (∀ j, j < m → N 12 j = 0) → jx_Ev (d + 11) mX0_findLeast 18 [some (.ref 9), some (.ref o), some (.int (nI p)), some (.int (nI m))] [] N (jx_qV qv) := by
    intro t
    induction t with
    | zero =>
      intro m N h e1 f1 f4 f5 f12
      have h : m = 4 := h
      subst h
      have g := te_settle (d := d) ho hr hp 6 0 mo (2147483647, b0) N qv rfl (tp_C_fr hC (fun a b q1 q2 => e1 a b (by omega) (by omega))) ⟨f1, f4, f5, fun m hm => by rw [f12 m hm, tp_hg]; exact n0, fun j hj => by omega, fun z => absurd z (by show ¬ (2147483647 : Nat) < 2147483647; decide), Nat.le_refl _⟩ (fun M' g1 g2 => kk M' (fun a b z1 z2 z3 z4 => by rw [g1 a b z1 z2 z3 z4, e1 a b z1 z4]) g2)
      have e0 : te_hc s mo p 0 = 0 := by simp [te_hc, te_hs, tp_hg]
      rw [e0] at g
      rw [eX0_findLeast_18]
      simp (disch := first | assumption | omega | decide) only [jx_qI_a, jx_qV_a, jx_qL_a, jn_lt, jn_le, jn_eq, jn_L, jn_A, jn_N, jn_LL, jn_add, jn_mul, jn_sub, jn_cl, jn_vin, jn_shl1, jn_shr, jn_or, jn_l_or0, jn_and1, jo_ltT, jo_ltF, jo_leT, jo_leF, jo_eqT, jo_eqF, true_or, or_true, true_and, and_true, false_or, or_false, false_and, and_false, if_true, if_false, not_true_eq_false, not_false_eq_true, jx_tab, eX0_findLeast]
      rw [n0]
      exact g
    | succ t ih =>
      intro m N h e1 f1 f4 f5 f12
      have g := ih (m + 1) (jx_up N 12 m 0) (by omega) (fun a b z1 z2 => by rw [jx_upE, if_neg (by omega)]; exact e1 a b z1 z2) (by rw [jx_upE, if_neg (by omega)]; exact f1) (by rw [jx_upE, if_neg (by omega)]; exact f4) (by rw [jx_upE, if_neg (by omega)]; exact f5) (fun j hj => by
        rw [jx_upE]
        by_cases e : j = m
        · rw [if_pos ⟨rfl, e⟩]
        · rw [if_neg (by omega)]; exact f12 j (by omega))
      rw [eX0_findLeast_18]
      simp (disch := first | assumption | omega | decide) only [jx_qI_a, jx_qV_a, jx_qL_a, jn_lt, jn_le, jn_eq, jn_L, jn_A, jn_N, jn_LL, jn_add, jn_mul, jn_sub, jn_cl, jn_vin, jn_shl1, jn_shr, jn_or, jn_l_or0, jn_and1, jo_ltT, jo_ltF, jo_leT, jo_leF, jo_eqT, jo_eqF, true_or, or_true, true_and, and_true, false_or, or_false, false_and, and_false, if_true, if_false, not_true_eq_false, not_false_eq_true, jx_tab, eX0_findLeast, g]
  have g := key 4 0 (jx_up (jx_up (jx_up M 9 4 (nI o)) 9 5 (nI p)) 9 1 2147483647) rfl (fun a b z1 z2 => by simp only [jx_upE]; rw [if_neg (by omega), if_neg (by omega), if_neg (by omega)]) (by rw [← nM]; simp [jx_upE]) (by simp [jx_upE]) (by simp [jx_upE]) (fun j hj => by omega)
  simp (disch := first | assumption | omega | decide) only [kX0_findLeast, eX0_findLeast]
  exact g
end TE3
