/-! the call shelf -/
def tp_clp (C : Nat) (x : Int32) : Prop := ∃ c : Nat, c < C ∧ x = nI c
/-- the first wrong place, from the place k on, n of them, with st standing -/
def tp_fw (s : tp_S) (m : Nat) (r : Nat → Nat) : Nat → Nat → Nat → Int32
  | _, _, 0 => -9
  | k, st, n + 1 => if tp_fit s m (if k = 0 then none else some (r (k - 1))) st (r k) = true then tp_fw s m r (k + 1) (st ||| 2 ^ r k) n else nI k
section TPF2
variable {d : Nat} {s : tp_S} {q : Int32 → jx_M → Prop}
theorem tp_or64 {st c : Nat} (h : st < 64) (hc : c < 6) : st ||| 2 ^ c < 64 := Nat.or_lt_two_pow (n := 6) h (Nat.pow_lt_pow_right (by decide) hc)
theorem tp_fw_l (hr : tp_rg s) {M : jx_M} {m : Nat} (hm : m ≤ 9) (hF : tp_F M s m) {n : Nat} (hn : n ≤ 20) {r : Nat → Nat} (hrow : ∀ j, j < n → M 14 j = nI (r j) ∧ r j < s 0 1) {Q : jx_Po} : ∀ t k st, k + t = n → st < 64 → (jx_Ev (d + 2) mX5_firstWrong 4 [some (.ref 13), some (.int (nI n)), some (.int (nI st)), some (.int (nI k))] [] M Q ↔ Q [.int (tp_fw s m r k st t)] M)
  | 0, k, st, h, hst => by
    have h : k = n := h
    subst h
    rw [eX5_firstWrong_4]
    simp (disch := first | assumption | omega | decide) only [jx_qI_a, jx_qV_a, jx_qL_a, jn_lt, jn_le, jn_eq, jn_L, jn_A, jn_N, jn_LL, jn_add, jn_mul, jn_sub, jn_cl, jn_vin, jn_shl1, jn_shr, jn_or, jn_l_or0, jn_and1, jo_ltT, jo_ltF, jo_leT, jo_leF, jo_eqT, jo_eqF, true_or, or_true, true_and, and_true, false_or, or_false, false_and, and_false, if_true, if_false, not_true_eq_false, not_false_eq_true, jx_tab, eX5_firstWrong, tp_fw]
  | t + 1, k, st, h, hst => by
    obtain ⟨k1, k2⟩ := hrow k (by omega)
    have r2 := hr.2.1
    have g := fun d q => tp_fits (d := d) (q := q) (prev := if k = 0 then none else some (r (k - 1))) hr hm hF k2 (show k < 20 by omega) (show st < 1000 by omega) (by
      by_cases e : k = 0
      · exact Or.inl ⟨e, by rw [if_pos e]⟩
      · exact Or.inr ⟨r (k - 1), (hrow (k - 1) (by omega)).2, by omega, by rw [if_neg e], (hrow (k - 1) (by omega)).1⟩)
    have ih := tp_fw_l hr hm hF hn hrow (Q := Q) t (k + 1) (st ||| 2 ^ r k) (by omega) (tp_or64 hst (by omega))
    rw [eX5_firstWrong_4, tp_fw]
    by_cases hf : tp_fit s m (if k = 0 then none else some (r (k - 1))) st (r k) = true
    · rw [if_pos hf] at g ⊢
      simp (disch := first | assumption | omega | decide) only [jx_qI_a, jx_qV_a, jx_qL_a, jn_lt, jn_le, jn_eq, jn_L, jn_A, jn_N, jn_LL, jn_add, jn_mul, jn_sub, jn_cl, jn_vin, jn_shl1, jn_shr, jn_or, jn_l_or0, jn_and1, jo_ltT, jo_ltF, jo_leT, jo_leF, jo_eqT, jo_eqF, true_or, or_true, true_and, and_true, false_or, or_false, false_and, and_false, if_true, if_false, not_true_eq_false, not_false_eq_true, jx_tab, eX5_firstWrong, k1, g, ih]
    · rw [if_neg hf] at g ⊢
      simp (disch := first | assumption | omega | decide) only [jx_qI_a, jx_qV_a, jx_qL_a, jn_lt, jn_le, jn_eq, jn_L, jn_A, jn_N, jn_LL, jn_add, jn_mul, jn_sub, jn_cl, jn_vin, jn_shl1, jn_shr, jn_or, jn_l_or0, jn_and1, jo_ltT, jo_ltF, jo_leT, jo_leF, jo_eqT, jo_eqF, true_or, or_true, true_and, and_true, false_or, or_false, false_and, and_false, if_true, if_false, not_true_eq_false, not_false_eq_true, jx_tab, eX5_firstWrong, k1, g]
theorem tp_tr_l (hr : tp_rg s) {m t a n len : Nat} {v : Nat → Int32} (t1 : jx_cl t = 4) (t2 : jx_cl (t + 1) = 9) (t3 : jx_sz (t + 1) = 60) (ht8 : 28 ≤ t) (hlen : len ≤ 60) (hn : n ≤ 20) (han : a + n ≤ len) {Q : jx_Po} : ∀ r c (M : jx_M), c + r = n → tp_F M s m → M t 2 = nI len → (∀ j, M (t + 1) j = v j) → (∀ j, j < c → M 14 j = v (a + j)) →
    (∀ M' : jx_M, (∀ x y, x ≠ 14 → M' x y = M x y) → (∀ j, j < n → M' 14 j = v (a + j)) → (∀ j, c ≤ j → j < n → tp_clp (s 0 1) (v (a + j))) → Q [.int 1] M') → (∀ M' : jx_M, (∀ x y, x ≠ 14 → M' x y = M x y) → (∃ j, c ≤ j ∧ j < n ∧ ¬ tp_clp (s 0 1) (v (a + j))) → Q [.int 0] M') → jx_Ev (d + 1) mX5_takeRow 3 [some (.ref 13), some (.ref t), some (.int (nI a)), some (.int (nI n)), some (.int (nI c))] [] M Q
  | 0, c, M, h, hF, hl, hv, h8, k1, k0 => by
    have h : c = n := h
    subst h
    have := k1 M (fun _ _ _ => rfl) h8 (fun j h1 h2 => by omega)
    rw [eX5_takeRow_3]
    simp (disch := first | assumption | omega | decide) only [jx_qI_a, jx_qV_a, jx_qL_a, jn_lt, jn_le, jn_eq, jn_L, jn_A, jn_N, jn_LL, jn_add, jn_mul, jn_sub, jn_cl, jn_vin, jn_shl1, jn_shr, jn_or, jn_l_or0, jn_and1, jo_ltT, jo_ltF, jo_leT, jo_leF, jo_eqT, jo_eqF, true_or, or_true, true_and, and_true, false_or, or_false, false_and, and_false, if_true, if_false, not_true_eq_false, not_false_eq_true, jx_tab, eX5_takeRow, this]
  | r + 1, c, M, h, hF, hl, hv, h8, k1, k0 => by
    have hrd := fun d q => tp_read (d := d) (q := q) (M := M) (a := a + c) t1 t2 t3 hl hlen (by omega)
    have e8 : ∀ x, jx_up M 14 c x 14 c = x := fun x => by simp [jx_upE]
    have hvc := hv (a + c)
    have hF1 : ∀ x, tp_F (jx_up M 14 c x) s m := fun x => tp_F_fr hF (fun a b z => by rw [jx_upE, if_neg (by omega)])
    rw [eX5_takeRow_3]
    by_cases hm : tp_clp (s 0 1) (v (a + c))
    · obtain ⟨k, hk, ek⟩ := id hm
      have g := fun d q => tp_sClap_y (d := d) (q := q) hr (hF1 (nI k)) hk
      have ih := tp_tr_l hr t1 t2 t3 ht8 hlen hn han (Q := Q) (v := v) r (c + 1) (jx_up M 14 c (v (a + c))) (by omega) (hF1 _) (by rw [jx_upE, if_neg (by omega)]; exact hl) (fun j => by rw [jx_upE, if_neg (by omega)]; exact hv j) (fun j hj => by
          rw [jx_upE]
          by_cases e : j = c
          · rw [if_pos ⟨rfl, e⟩, e]
          · rw [if_neg (by omega)]; exact h8 j (by omega)) (fun M' e1 e2 e3 => k1 M' (fun x y z => by rw [e1 x y z, jx_upE, if_neg (by omega)]) e2 (fun j h1 h2 => by
          by_cases e : j = c
          · subst e; exact hm
          · exact e3 j (by omega) h2)) (fun M' e1 e2 => k0 M' (fun x y z => by rw [e1 x y z, jx_upE, if_neg (by omega)]) (by
          obtain ⟨j, h1, h2, h3⟩ := e2
          exact ⟨j, by omega, h2, h3⟩))
      rw [ek] at ih
      have r2 := hr.2.1
      simp (disch := first | assumption | omega | decide) only [jx_qI_a, jx_qV_a, jx_qL_a, jn_lt, jn_le, jn_eq, jn_L, jn_A, jn_N, jn_LL, jn_add, jn_mul, jn_sub, jn_cl, jn_vin, jn_shl1, jn_shr, jn_or, jn_l_or0, jn_and1, jo_ltT, jo_ltF, jo_leT, jo_leF, jo_eqT, jo_eqF, true_or, or_true, true_and, and_true, false_or, or_false, false_and, and_false, if_true, if_false, not_true_eq_false, not_false_eq_true, jx_tab, eX5_takeRow, hrd, hvc, e8, ek, g, ih]
    · have hk0 := k0 (jx_up M 14 c (v (a + c))) (fun x y z => by rw [jx_upE, if_neg (by omega)]) ⟨c, by omega, by omega, hm⟩
      rcases jx_ix (v (a + c)) (n := s 0 1) (by have := hr.2.1; omega) with h1 | ⟨k, hk, ek⟩
      · have g := fun d q => tp_sClap_n (d := d) (q := q) hr (hF1 (v (a + c))) h1
        simp (disch := first | assumption | omega | decide) only [jx_qI_a, jx_qV_a, jx_qL_a, jn_lt, jn_le, jn_eq, jn_L, jn_A, jn_N, jn_LL, jn_add, jn_mul, jn_sub, jn_cl, jn_vin, jn_shl1, jn_shr, jn_or, jn_l_or0, jn_and1, jo_ltT, jo_ltF, jo_leT, jo_leF, jo_eqT, jo_eqF, true_or, or_true, true_and, and_true, false_or, or_false, false_and, and_false, if_true, if_false, not_true_eq_false, not_false_eq_true, jx_tab, eX5_takeRow, hrd, hvc, e8, g, hk0]
      · exact absurd ⟨k, hk, ek⟩ hm
theorem tq_tr_l (hr : tp_rg s) {M : jx_M} (hD : tp_D M s) {k a n : Nat} {v : Nat → Int32} {l1 l3 l4 l6 l9 l10 : Option Value} (hk : k < 4) (hn : n ≤ 20) (han : a + n ≤ 60) (hv : ∀ j, j < 60 → M 39 (60 * k + j) = v j) {Q : jx_Po} (h1 : (∀ j, j < n → tp_clp (s 0 1) (v (a + j))) → jx_Ev (d + 20) mX8_shelf 116 [some (.ref 36), l1, some (.int (nI k)), l3, l4, some (.int (nI n)), l6, some (.int (nI (60 * k + a))), some (.int 0), some (.int 0), l10] [] M Q) (h0 : (∃ j, j < n ∧ ¬ tp_clp (s 0 1) (v (a + j))) → Q [.int (-1)] M) : ∀ r c, c + r = n → (∀ j, j < c → tp_clp (s 0 1) (v (a + j))) → jx_Ev (d + 20) mX8_shelf 78 [some (.ref 36), l1, some (.int (nI k)), l3, l4, some (.int (nI n)), l6, some (.int (nI (60 * k + a))), some (.int (nI c)), l9, l10] [] M Q
  | 0, c, h, hc => by
    have h : c = n := h
    subst h
    have := h1 hc
    rw [eX8_shelf_78]
    simp (disch := first | assumption | omega | decide) only [jx_qI_a, jx_qV_a, jx_qL_a, jn_lt, jn_le, jn_eq, jn_L, jn_A, jn_N, jn_LL, jn_add, jn_mul, jn_sub, jn_cl, jn_vin, jn_shl1, jn_shr, jn_or, jn_l_or0, jn_and1, jo_ltT, jo_ltF, jo_leT, jo_leF, jo_eqT, jo_eqF, true_or, or_true, true_and, and_true, false_or, or_false, false_and, and_false, if_true, if_false, not_true_eq_false, not_false_eq_true, jx_tab, eX8_shelf, this]
  | r + 1, c, h, hc => by
    have hvc := hv (a + c) (by omega)
    rw [← Nat.add_assoc] at hvc
    rw [eX8_shelf_78]
    by_cases hm : tp_clp (s 0 1) (v (a + c))
    · have ih := tq_tr_l hr hD hk hn han hv (l1 := l1) (l3 := l3) (l4 := l4) (l6 := l6) (l9 := l9) (l10 := l10) (Q := Q) h1 h0 r (c + 1) (by omega) (fun j hj => by
        by_cases e : j = c
        · subst e; exact hm
        · exact hc j (by omega))
      obtain ⟨k', hk', ek⟩ := hm
      have g := fun d q => tq_isClap_y (d := d) (q := q) hr hD hk'
      simp (disch := first | assumption | omega | decide) only [jx_qI_a, jx_qV_a, jx_qL_a, jn_lt, jn_le, jn_eq, jn_L, jn_A, jn_N, jn_LL, jn_add, jn_mul, jn_sub, jn_cl, jn_vin, jn_shl1, jn_shr, jn_or, jn_l_or0, jn_and1, jo_ltT, jo_ltF, jo_leT, jo_leF, jo_eqT, jo_eqF, true_or, or_true, true_and, and_true, false_or, or_false, false_and, and_false, if_true, if_false, not_true_eq_false, not_false_eq_true, jx_tab, eX8_shelf, hvc, ek, g, ih]
    · have hq := h0 ⟨c, by omega, hm⟩
      rcases jx_ix (v (a + c)) (n := s 0 1) (by have := hr.2.1; omega) with h2 | ⟨k', hk', ek⟩
      · have g := fun d q => tq_isClap_n (d := d) (q := q) hr hD h2
        simp (disch := first | assumption | omega | decide) only [jx_qI_a, jx_qV_a, jx_qL_a, jn_lt, jn_le, jn_eq, jn_L, jn_A, jn_N, jn_LL, jn_add, jn_mul, jn_sub, jn_cl, jn_vin, jn_shl1, jn_shr, jn_or, jn_l_or0, jn_and1, jo_ltT, jo_ltF, jo_leT, jo_leF, jo_eqT, jo_eqF, true_or, or_true, true_and, and_true, false_or, or_false, false_and, and_false, if_true, if_false, not_true_eq_false, not_false_eq_true, jx_tab, eX8_shelf, hvc, g, hq]
      · exact absurd ⟨k', hk', ek⟩ hm
theorem tq_fw_l (hr : tp_rg s) {M : jx_M} (hD : tp_D M s) {m k a n : Nat} {l3 l4 l6 : Option Value} (hm : m ≤ 9) (hk : k < 4) (hn : n ≤ 20) (han : a + n ≤ 60) {r : Nat → Nat} (hrow : ∀ j, j < n → M 39 (60 * k + a + j) = nI (r j) ∧ r j < s 0 1) {Q : jx_Po} : ∀ t c st l10, c + t = n → st < 64 → (jx_Ev (d + 20) mX8_shelf 116 [some (.ref 36), some (.int (nI m)), some (.int (nI k)), l3, l4, some (.int (nI n)), l6, some (.int (nI (60 * k + a))), some (.int (nI st)), some (.int (nI c)), l10] [] M Q ↔ Q [.int (tp_fw s m r c st t)] M)
  | 0, c, st, l10, h, hst => by
    have h : c = n := h
    subst h
    rw [eX8_shelf_116]
    simp (disch := first | assumption | omega | decide) only [jx_qI_a, jx_qV_a, jx_qL_a, jn_lt, jn_le, jn_eq, jn_L, jn_A, jn_N, jn_LL, jn_add, jn_mul, jn_sub, jn_cl, jn_vin, jn_shl1, jn_shr, jn_or, jn_l_or0, jn_and1, jo_ltT, jo_ltF, jo_leT, jo_leF, jo_eqT, jo_eqF, true_or, or_true, true_and, and_true, false_or, or_false, false_and, and_false, if_true, if_false, not_true_eq_false, not_false_eq_true, jx_tab, eX8_shelf, tp_fw]
  | t + 1, c, st, l10, h, hst => by
    obtain ⟨k1, k2⟩ := hrow c (by omega)
    have r2 := hr.2.1
    have hb1 : st / 2 ^ r c < 2147483648 := Nat.lt_of_le_of_lt (Nat.div_le_self _ _) (by omega)
    have hb2 : st / 2 ^ r c % 2 < 2 := Nat.mod_lt _ (by decide)
    have ih := tq_fw_l hr hD hm hk hn han hrow (Q := Q) (l3 := l3) (l4 := l4) (l6 := l6) t (c + 1) (st ||| 2 ^ r c) (some (.int (nI (r c)))) (by omega) (tp_or64 hst (by omega))
    rw [eX8_shelf_116, tp_fw]
    by_cases h0 : st / 2 ^ r c % 2 = 0
    · by_cases hc0 : c = 0
      · subst hc0
        have e : tp_fit s m (if 0 = 0 then none else some (r (0 - 1))) st (r 0) = true := by simp [tp_fit, h0]
        rw [if_pos e]
        simp (disch := first | assumption | omega | decide) only [jx_qI_a, jx_qV_a, jx_qL_a, jn_lt, jn_le, jn_eq, jn_L, jn_A, jn_N, jn_LL, jn_add, jn_mul, jn_sub, jn_cl, jn_vin, jn_shl1, jn_shr, jn_or, jn_l_or0, jn_and1, jo_ltT, jo_ltF, jo_leT, jo_leF, jo_eqT, jo_eqF, true_or, or_true, true_and, and_true, false_or, or_false, false_and, and_false, if_true, if_false, not_true_eq_false, not_false_eq_true, jx_tab, eX8_shelf, k1, ih]
      · obtain ⟨k3, k4⟩ := hrow (c - 1) (by omega)
        have ei : 60 * k + a + c - 1 = 60 * k + a + (c - 1) := by omega
        have g := fun d q => tq_isApart (d := d) (q := q) hr hD k4 k2 hm
        by_cases hg : s 0 3 ≤ tp_df (tp_lo s (r (c - 1)) m) (tp_lo s (r c) m)
        · have e : tp_fit s m (if c = 0 then none else some (r (c - 1))) st (r c) = true := by
            rw [if_neg hc0]
            rw [tp_df_c] at hg
            simp [tp_fit, h0, hg]
          rw [if_pos e]
          rw [if_pos hg] at g
          simp (disch := first | assumption | omega | decide) only [jx_qI_a, jx_qV_a, jx_qL_a, jn_lt, jn_le, jn_eq, jn_L, jn_A, jn_N, jn_LL, jn_add, jn_mul, jn_sub, jn_cl, jn_vin, jn_shl1, jn_shr, jn_or, jn_l_or0, jn_and1, jo_ltT, jo_ltF, jo_leT, jo_leF, jo_eqT, jo_eqF, true_or, or_true, true_and, and_true, false_or, or_false, false_and, and_false, if_true, if_false, not_true_eq_false, not_false_eq_true, jx_tab, eX8_shelf, k1, ei, k3, g, ih]
        · have e : tp_fit s m (if c = 0 then none else some (r (c - 1))) st (r c) = false := by
            rw [if_neg hc0]
            rw [tp_df_c] at hg
            simp [tp_fit, h0, hg]
          rw [if_neg (by rw [e]; decide)]
          rw [if_neg hg] at g
          simp (disch := first | assumption | omega | decide) only [jx_qI_a, jx_qV_a, jx_qL_a, jn_lt, jn_le, jn_eq, jn_L, jn_A, jn_N, jn_LL, jn_add, jn_mul, jn_sub, jn_cl, jn_vin, jn_shl1, jn_shr, jn_or, jn_l_or0, jn_and1, jo_ltT, jo_ltF, jo_leT, jo_leF, jo_eqT, jo_eqF, true_or, or_true, true_and, and_true, false_or, or_false, false_and, and_false, if_true, if_false, not_true_eq_false, not_false_eq_true, jx_tab, eX8_shelf, k1, ei, k3, g]
    · have e : tp_fit s m (if c = 0 then none else some (r (c - 1))) st (r c) = false := by simp [tp_fit, h0]
      rw [if_neg (by rw [e]; decide)]
      simp (disch := first | assumption | omega | decide) only [jx_qI_a, jx_qV_a, jx_qL_a, jn_lt, jn_le, jn_eq, jn_L, jn_A, jn_N, jn_LL, jn_add, jn_mul, jn_sub, jn_cl, jn_vin, jn_shl1, jn_shr, jn_or, jn_l_or0, jn_and1, jo_ltT, jo_ltF, jo_leT, jo_leF, jo_eqT, jo_eqF, true_or, or_true, true_and, and_true, false_or, or_false, false_and, and_false, if_true, if_false, not_true_eq_false, not_false_eq_true, jx_tab, eX8_shelf, k1]
end TPF2
