/-! odds -/
/-- how many of the sets below n -/
def tp_ct (s : tp_S) (lo p : Nat) : Nat → Nat
  | 0 => 0
  | n + 1 => tp_ct s lo p n + (if tp_tk s n lo 5 p = none then 0 else 1)
/-- the same, counted from the top T down -/
def tp_cu (s : tp_S) (lo p T : Nat) : Nat → Nat
  | 0 => 0
  | n + 1 => tp_cu s lo p T n + (if tp_tk s (T - 1 - n) lo 5 p = none then 0 else 1)
theorem tp_ct_le (s : tp_S) (lo p : Nat) : ∀ n, tp_ct s lo p n ≤ n
  | 0 => Nat.le_refl 0
  | n + 1 => by
    have := tp_ct_le s lo p n
    rw [tp_ct]
    split <;> omega
theorem tp_cu_le (s : tp_S) (lo p T : Nat) : ∀ n, tp_cu s lo p T n ≤ n
  | 0 => Nat.le_refl 0
  | n + 1 => by
    have := tp_cu_le s lo p T n
    rw [tp_cu]
    split <;> omega
theorem tp_ct_cu (s : tp_S) (lo p : Nat) : ∀ n T, n ≤ T → tp_ct s lo p T = tp_ct s lo p (T - n) + tp_cu s lo p T n
  | 0, T, h => by rw [tp_cu, Nat.sub_zero, Nat.add_zero]
  | n + 1, T, h => by
    rw [tp_ct_cu s lo p n T (by omega), tp_cu, show T - n = (T - (n + 1)) + 1 by omega, tp_ct, show T - 1 - n = T - (n + 1) by omega]
    omega
theorem tp_ct_eq (s : tp_S) (lo p T : Nat) : tp_cu s lo p T T = tp_ct s lo p T := by
  have := tp_ct_cu s lo p T T (Nat.le_refl T)
  rw [Nat.sub_self, tp_ct, Nat.zero_add] at this
  exact this.symm
/-- halving while both can be halved, at most n times -/
def tp_hv : Nat → Nat → Nat → Nat × Nat
  | 0, u, l => (u, l)
  | n + 1, u, l => if u % 2 = 0 ∧ l % 2 = 0 then tp_hv n (u / 2) (l / 2) else (u, l)
theorem tp_hv_ok : ∀ P, P < 6 → ∀ u, u < 33 → u ≤ 2 ^ P → jx_ilt (nI u).toInt64 (1 <<< ((nI P).toInt64 &&& 63)) 0 = some (nI (tp_hv 5 u (2 ^ P)).1).toInt64 ∧ jx_ilt (nI u).toInt64 (1 <<< ((nI P).toInt64 &&& 63)) 1 = some (nI (tp_hv 5 u (2 ^ P)).2).toInt64 := by
  have h : ∀ P : Fin 6, ∀ u : Fin 33, u.val ≤ 2 ^ P.val → jx_ilt (nI u.val).toInt64 (1 <<< ((nI P.val).toInt64 &&& 63)) 0 = some (nI (tp_hv 5 u.val (2 ^ P.val)).1).toInt64 ∧ jx_ilt (nI u.val).toInt64 (1 <<< ((nI P.val).toInt64 &&& 63)) 1 = some (nI (tp_hv 5 u.val (2 ^ P.val)).2).toInt64 := by decide +kernel
  exact fun P hP u hu => h ⟨P, hP⟩ ⟨u, hu⟩
section TPD
variable {d o : Nat} {M : jx_M} {s : tp_S}
theorem tp_odds_l2 {c m w : Int32} {l4 : Option Value} {Q : jx_Po} {W : Nat} (hw : w = nI W) (hW : W < 2) : ∀ n k u l, k + n = 5 → u < 100 → l < 100 → (jx_Ev (d + 20) mX7_odds 87 [some (.ref 0), some (.int c), some (.int m), some (.int w), l4, some (.int (nI u)), some (.int (nI l)), some (.int (nI k))] [] M Q ↔ Q [.long (if W = 0 then nI (tp_hv n u l).1 else nI (tp_hv n u l).2).toInt64] M)
  | 0, k, u, l, h, hu, hl => by
    have h : k = 5 := h
    subst h
    rw [eX7_odds_87]
    by_cases hw0 : W = 0
    · subst hw0
      simp (disch := first | assumption | omega | decide) only [jx_qI_a, jx_qV_a, jx_qL_a, jn_lt, jn_le, jn_eq, jn_L, jn_A, jn_N, jn_LL, jn_add, jn_mul, jn_sub, jn_cl, jn_vin, jn_shl1, jn_shr, jn_or, jn_l_or0, jn_and1, jo_ltT, jo_ltF, jo_leT, jo_leF, jo_eqT, jo_eqF, true_or, or_true, true_and, and_true, false_or, or_false, false_and, and_false, if_true, if_false, not_true_eq_false, not_false_eq_true, jx_tab, eX7_odds, hw, tp_hv]
    · simp (disch := first | assumption | omega | decide) only [jx_qI_a, jx_qV_a, jx_qL_a, jn_lt, jn_le, jn_eq, jn_L, jn_A, jn_N, jn_LL, jn_add, jn_mul, jn_sub, jn_cl, jn_vin, jn_shl1, jn_shr, jn_or, jn_l_or0, jn_and1, jo_ltT, jo_ltF, jo_leT, jo_leF, jo_eqT, jo_eqF, true_or, or_true, true_and, and_true, false_or, or_false, false_and, and_false, if_true, if_false, not_true_eq_false, not_false_eq_true, jx_tab, eX7_odds, hw, tp_hv]
  | n + 1, k, u, l, h, hu, hl => by
    have ih := tp_odds_l2 (c := c) (m := m) (l4 := l4) hw hW (Q := Q) n (k + 1) (u / 2) (l / 2) (by omega) (by omega) (by omega)
    have n2 : (2 : Int32) = nI 2 := fa_lit 2
    have d1 : nI u / 2 = nI (u / 2) := by rw [n2]; exact pk_div (by omega) (by decide) (by decide)
    have d2 : nI l / 2 = nI (l / 2) := by rw [n2]; exact pk_div (by omega) (by decide) (by decide)
    have m1 : u - u / 2 * 2 = u % 2 := by omega
    have m2 : l - l / 2 * 2 = l % 2 := by omega
    rw [eX7_odds_87]
    by_cases h1 : u % 2 = 0
    · by_cases h2 : l % 2 = 0
      · have e : tp_hv (n + 1) u l = tp_hv n (u / 2) (l / 2) := by rw [tp_hv, if_pos ⟨h1, h2⟩]
        rw [e]
        simp (disch := first | assumption | omega | decide) only [jx_qI_a, jx_qV_a, jx_qL_a, jn_lt, jn_le, jn_eq, jn_L, jn_A, jn_N, jn_LL, jn_add, jn_mul, jn_sub, jn_cl, jn_vin, jn_shl1, jn_shr, jn_or, jn_l_or0, jn_and1, jo_ltT, jo_ltF, jo_leT, jo_leF, jo_eqT, jo_eqF, true_or, or_true, true_and, and_true, false_or, or_false, false_and, and_false, if_true, if_false, not_true_eq_false, not_false_eq_true, jx_tab, eX7_odds, d1, d2, m1, m2, ih]
      · have e : tp_hv (n + 1) u l = (u, l) := by rw [tp_hv, if_neg (fun z => h2 z.2)]
        rw [e]
        by_cases hw0 : W = 0
        · subst hw0
          simp (disch := first | assumption | omega | decide) only [jx_qI_a, jx_qV_a, jx_qL_a, jn_lt, jn_le, jn_eq, jn_L, jn_A, jn_N, jn_LL, jn_add, jn_mul, jn_sub, jn_cl, jn_vin, jn_shl1, jn_shr, jn_or, jn_l_or0, jn_and1, jo_ltT, jo_ltF, jo_leT, jo_leF, jo_eqT, jo_eqF, true_or, or_true, true_and, and_true, false_or, or_false, false_and, and_false, if_true, if_false, not_true_eq_false, not_false_eq_true, jx_tab, eX7_odds, d1, d2, m1, m2, hw]
        · simp (disch := first | assumption | omega | decide) only [jx_qI_a, jx_qV_a, jx_qL_a, jn_lt, jn_le, jn_eq, jn_L, jn_A, jn_N, jn_LL, jn_add, jn_mul, jn_sub, jn_cl, jn_vin, jn_shl1, jn_shr, jn_or, jn_l_or0, jn_and1, jo_ltT, jo_ltF, jo_leT, jo_leF, jo_eqT, jo_eqF, true_or, or_true, true_and, and_true, false_or, or_false, false_and, and_false, if_true, if_false, not_true_eq_false, not_false_eq_true, jx_tab, eX7_odds, d1, d2, m1, m2, hw]
    · have e : tp_hv (n + 1) u l = (u, l) := by rw [tp_hv, if_neg (fun z => h1 z.1)]
      rw [e]
      by_cases hw0 : W = 0
      · subst hw0
        simp (disch := first | assumption | omega | decide) only [jx_qI_a, jx_qV_a, jx_qL_a, jn_lt, jn_le, jn_eq, jn_L, jn_A, jn_N, jn_LL, jn_add, jn_mul, jn_sub, jn_cl, jn_vin, jn_shl1, jn_shr, jn_or, jn_l_or0, jn_and1, jo_ltT, jo_ltF, jo_leT, jo_leF, jo_eqT, jo_eqF, true_or, or_true, true_and, and_true, false_or, or_false, false_and, and_false, if_true, if_false, not_true_eq_false, not_false_eq_true, jx_tab, eX7_odds, d1, d2, m1, m2, hw]
      · simp (disch := first | assumption | omega | decide) only [jx_qI_a, jx_qV_a, jx_qL_a, jn_lt, jn_le, jn_eq, jn_L, jn_A, jn_N, jn_LL, jn_add, jn_mul, jn_sub, jn_cl, jn_vin, jn_shl1, jn_shr, jn_or, jn_l_or0, jn_and1, jo_ltT, jo_ltF, jo_leT, jo_leF, jo_eqT, jo_eqF, true_or, or_true, true_and, and_true, false_or, or_false, false_and, and_false, if_true, if_false, not_true_eq_false, not_false_eq_true, jx_tab, eX7_odds, d1, d2, m1, m2, hw]
theorem tp_odds_l1 (ho : tp_O o) (hr : tp_rg s) (e6 : jx_rv (M 0 6) = .ref o) (hC : tp_C M o s) {c m W : Nat} (hc : c < s 0 1) (hm : m ≤ 9) (hW : W < 2) {Q : jx_Po} : ∀ r k, k + r = 2 ^ s 0 0 → (jx_Ev (d + 20) mX7_odds 52 [some (.ref 0), some (.int (nI c)), some (.int (nI m)), some (.int (nI W)), some (.int (nI (2 ^ s 0 0))), some (.int (nI (tp_ct s (tp_lo s c m) (s 5 c) k))), some (.int (nI (2 ^ s 0 0))), some (.int (nI k))] [] M Q ↔ Q [.long (if W = 0 then nI (tp_hv 5 (tp_ct s (tp_lo s c m) (s 5 c) (2 ^ s 0 0)) (2 ^ s 0 0)).1 else nI (tp_hv 5 (tp_ct s (tp_lo s c m) (s 5 c) (2 ^ s 0 0)) (2 ^ s 0 0)).2).toInt64] M)
  | 0, k, h => by
    have h : k = 2 ^ s 0 0 := h
    have h32 : 2 ^ s 0 0 ≤ 32 := Nat.pow_le_pow_right (n := 2) (by decide) hr.1
    have hct := tp_ct_le s (tp_lo s c m) (s 5 c) (2 ^ s 0 0)
    subst h
    have g := tp_odds_l2 (d := d) (M := M) (c := nI c) (m := nI m) (w := nI W) (l4 := some (.int (nI (2 ^ s 0 0)))) rfl hW (Q := Q) 5 0 (tp_ct s (tp_lo s c m) (s 5 c) (2 ^ s 0 0)) (2 ^ s 0 0) rfl (by omega) (by omega)
    have n0 : (0 : Int32) = nI 0 := fa_lit 0
    rw [← n0] at g
    rw [eX7_odds_52]
    simp (disch := first | assumption | omega | decide) only [jx_qI_a, jx_qV_a, jx_qL_a, jn_lt, jn_le, jn_eq, jn_L, jn_A, jn_N, jn_LL, jn_add, jn_mul, jn_sub, jn_cl, jn_vin, jn_shl1, jn_shr, jn_or, jn_l_or0, jn_and1, jo_ltT, jo_ltF, jo_leT, jo_leF, jo_eqT, jo_eqF, true_or, or_true, true_and, and_true, false_or, or_false, false_and, and_false, if_true, if_false, not_true_eq_false, not_false_eq_true, jx_tab, eX7_odds, g]
  | r + 1, k, h => by
    have ih := tp_odds_l1 ho hr e6 hC hc hm hW (Q := Q) r (k + 1) (by omega)
    have h32 : 2 ^ s 0 0 ≤ 32 := Nat.pow_le_pow_right (n := 2) (by decide) hr.1
    have g5 := fun d q => tp_takerOf (d := d) (q := q) ho hr hC hc hm (ah := k) (by omega)
    obtain ⟨o0, o1, o2, o3, o4, o5, z1, z2, z3, z4, z5⟩ := tp_Ot ho
    rw [eX7_odds_52]
    cases hz : tp_tk s k (tp_lo s c m) 5 (s 5 c) with
    | none =>
      rw [hz] at g5
      rw [tp_ct, if_pos hz, Nat.add_zero] at ih
      simp (disch := first | assumption | omega | decide) only [jx_qI_a, jx_qV_a, jx_qL_a, jn_lt, jn_le, jn_eq, jn_L, jn_A, jn_N, jn_LL, jn_add, jn_mul, jn_sub, jn_cl, jn_vin, jn_shl1, jn_shr, jn_or, jn_l_or0, jn_and1, jo_ltT, jo_ltF, jo_leT, jo_leF, jo_eqT, jo_eqF, true_or, or_true, true_and, and_true, false_or, or_false, false_and, and_false, if_true, if_false, not_true_eq_false, not_false_eq_true, jx_tab, eX7_odds, e6, g5, tp_r]
      exact ih
    | some x =>
      have hx := tp_tk_lt _ _ _ hz
      have := hr.1
      rw [hz] at g5
      rw [tp_ct, if_neg (by rw [hz]; exact Option.some_ne_none x)] at ih
      simp (disch := first | assumption | omega | decide) only [jx_qI_a, jx_qV_a, jx_qL_a, jn_lt, jn_le, jn_eq, jn_L, jn_A, jn_N, jn_LL, jn_add, jn_mul, jn_sub, jn_cl, jn_vin, jn_shl1, jn_shr, jn_or, jn_l_or0, jn_and1, jo_ltT, jo_ltF, jo_leT, jo_leF, jo_eqT, jo_eqF, true_or, or_true, true_and, and_true, false_or, or_false, false_and, and_false, if_true, if_false, not_true_eq_false, not_false_eq_true, jx_tab, eX7_odds, e6, g5, tp_r, ih]
theorem tq_odds_l (hr : tp_rg s) (hD : tp_D M s) {c m W : Nat} (hc : c < s 0 1) (hm : m ≤ 9) (hW : W < 2) {Q : jx_Po} : ∀ r k, k + r = 2 ^ s 0 0 → (jx_Ev (d + 20) mX8_odds 34 [some (.ref 36), some (.int (nI c)), some (.int (nI m)), some (.int (nI W)), some (.int (nI (tp_cu s (tp_lo s c m) (s 5 c) (2 ^ s 0 0) k))), some (.int (nI k))] [] M Q ↔ Q [.long (if W = 0 then nI (tp_hv 5 (tp_ct s (tp_lo s c m) (s 5 c) (2 ^ s 0 0)) (2 ^ s 0 0)).1 else nI (tp_hv 5 (tp_ct s (tp_lo s c m) (s 5 c) (2 ^ s 0 0)) (2 ^ s 0 0)).2).toInt64] M)
  | 0, k, h => by
    have h : k = 2 ^ s 0 0 := h
    have h32 : 2 ^ s 0 0 ≤ 32 := Nat.pow_le_pow_right (n := 2) (by decide) hr.1
    have hct := tp_ct_le s (tp_lo s c m) (s 5 c) (2 ^ s 0 0)
    have h5 := hr.1
    subst h
    rw [tp_ct_eq]
    obtain ⟨w0, w1⟩ := tp_hv_ok (s 0 0) (by omega) (tp_ct s (tp_lo s c m) (s 5 c) (2 ^ s 0 0)) (by omega) hct
    rw [eX8_odds_34]
    by_cases hw0 : W = 0
    · subst hw0
      have n0 : nI 0 = (0 : Int32) := (fa_lit 0).symm
      rw [← n0] at w0
      rw [if_pos rfl]
      simp (disch := first | assumption | omega | decide) only [jx_qI_a, jx_qV_a, jx_qL_a, jn_lt, jn_le, jn_eq, jn_L, jn_A, jn_N, jn_LL, jn_add, jn_mul, jn_sub, jn_cl, jn_vin, jn_shl1, jn_shr, jn_or, jn_l_or0, jn_and1, jo_ltT, jo_ltF, jo_leT, jo_leF, jo_eqT, jo_eqF, true_or, or_true, true_and, and_true, false_or, or_false, false_and, and_false, if_true, if_false, not_true_eq_false, not_false_eq_true, jx_tab, eX8_odds, hD.1, w0]
    · have hw1 : W = 1 := by omega
      subst hw1
      have n1 : nI 1 = (1 : Int32) := (fa_lit 1).symm
      rw [← n1] at w1
      rw [if_neg (by decide)]
      simp (disch := first | assumption | omega | decide) only [jx_qI_a, jx_qV_a, jx_qL_a, jn_lt, jn_le, jn_eq, jn_L, jn_A, jn_N, jn_LL, jn_add, jn_mul, jn_sub, jn_cl, jn_vin, jn_shl1, jn_shr, jn_or, jn_l_or0, jn_and1, jo_ltT, jo_ltF, jo_leT, jo_leF, jo_eqT, jo_eqF, true_or, or_true, true_and, and_true, false_or, or_false, false_and, and_false, if_true, if_false, not_true_eq_false, not_false_eq_true, jx_tab, eX8_odds, hD.1, w1]
  | r + 1, k, h => by
    have ih := tq_odds_l hr hD hc hm hW (Q := Q) r (k + 1) (by omega)
    have h32 : 2 ^ s 0 0 ≤ 32 := Nat.pow_le_pow_right (n := 2) (by decide) hr.1
    have h5 := hr.1
    have g5 := fun d q => tq_ownerOf (d := d) (q := q) hr hD hc hm (aw := k) (by omega)
    rw [eX8_odds_34]
    cases hz : tp_tk s (2 ^ s 0 0 - 1 - k) (tp_lo s c m) 5 (s 5 c) with
    | none =>
      rw [hz] at g5
      rw [tp_cu, if_pos hz] at ih
      simp (disch := first | assumption | omega | decide) only [jx_qI_a, jx_qV_a, jx_qL_a, jn_lt, jn_le, jn_eq, jn_L, jn_A, jn_N, jn_LL, jn_add, jn_mul, jn_sub, jn_cl, jn_vin, jn_shl1, jn_shr, jn_or, jn_l_or0, jn_and1, jo_ltT, jo_ltF, jo_leT, jo_leF, jo_eqT, jo_eqF, true_or, or_true, true_and, and_true, false_or, or_false, false_and, and_false, if_true, if_false, not_true_eq_false, not_false_eq_true, jx_tab, eX8_odds, hD.1, g5, tp_r, ih]
    | some x =>
      have hx := tp_tk_lt _ _ _ hz
      rw [hz] at g5
      rw [tp_cu, if_neg (by rw [hz]; exact Option.some_ne_none x)] at ih
      simp (disch := first | assumption | omega | decide) only [jx_qI_a, jx_qV_a, jx_qL_a, jn_lt, jn_le, jn_eq, jn_L, jn_A, jn_N, jn_LL, jn_add, jn_mul, jn_sub, jn_cl, jn_vin, jn_shl1, jn_shr, jn_or, jn_l_or0, jn_and1, jo_ltT, jo_ltF, jo_leT, jo_leF, jo_eqT, jo_eqF, true_or, or_true, true_and, and_true, false_or, or_false, false_and, and_false, if_true, if_false, not_true_eq_false, not_false_eq_true, jx_tab, eX8_odds, hD.1, g5, tp_r, ih]
theorem op_odds (h : tp_I M) (a b c : Int32) : jx_L (d + 20) mX7_odds [.ref 0, .int a, .int b, .int c] M (fun r M1 => jx_L (d + 20) mX8_odds [.ref 36, .int a, .int b, .int c] M1 (fun r2 M2 => r = r2 ∧ tp_I M2)) := by
  have hI := h
  obtain ⟨s, o, ho, h06, h07, hr, hC, hD, hf, ht, hrd, hsh⟩ := h
  have e6 : jx_rv (M 0 6) = .ref o := by rw [h06]; exact tp_rvn (by rcases ho with rfl | rfl <;> decide)
  obtain ⟨o0, o1, o2, o3, o4, o5, z1, z2, z3, z4, z5⟩ := tp_Ot ho
  obtain ⟨r1, r2, r3, r4, r5, r6⟩ := id hr
  rcases jx_ix a (n := s 0 1) (by omega) with hn | ⟨p, hp, rfl⟩
  · have g1 := fun d q => tp_hasClap_n (d := d) (q := q) ho hr hC hn
    have g2 := fun d q => tq_isClap_n (d := d) (q := q) hr hD hn
    have hx : ∀ q : Int64 → jx_M → Prop, q (-9223372036854775808) M → jx_L (d + 20) mX7_odds [.ref 0, .int a, .int b, .int c] M q := by
      intro q hq
      simp (disch := first | assumption | omega | decide) only [jx_qI_a, jx_qV_a, jx_qL_a, jn_LL, true_or, or_true, true_and, and_true, false_or, or_false, false_and, and_false, if_true, if_false, not_true_eq_false, not_false_eq_true, jx_tab, kX7_odds, eX7_odds, e6, g1, hq]
    have hm : ∀ q : Int64 → jx_M → Prop, q (-9223372036854775808) M → jx_L (d + 20) mX8_odds [.ref 36, .int a, .int b, .int c] M q := by
      intro q hq
      simp (disch := first | assumption | omega | decide) only [jx_qI_a, jx_qV_a, jx_qL_a, jn_LL, true_or, or_true, true_and, and_true, false_or, or_false, false_and, and_false, if_true, if_false, not_true_eq_false, not_false_eq_true, jx_tab, kX8_odds, eX8_odds, g2, hq]
    exact hx _ (hm _ ⟨rfl, hI⟩)
  · have g1 := fun d q => tp_hasClap_y (d := d) (q := q) ho hr hC hp
    have g2 := fun d q => tq_isClap_y (d := d) (q := q) hr hD hp
    rcases jx_ix b (n := 10) (by omega) with hn | ⟨m, hm, rfl⟩
    · have g3 := fun M d q => tp_isMonth_n (d := d) (q := q) (M := M) hn
      have g4 := fun M d q => tq_isMonths_n (d := d) (q := q) (M := M) hn
      have hx : ∀ q : Int64 → jx_M → Prop, q (-9223372036854775808) M → jx_L (d + 20) mX7_odds [.ref 0, .int (nI p), .int b, .int c] M q := by
        intro q hq
        simp (disch := first | assumption | omega | decide) only [jx_qI_a, jx_qV_a, jx_qL_a, jn_LL, true_or, or_true, true_and, and_true, false_or, or_false, false_and, and_false, if_true, if_false, not_true_eq_false, not_false_eq_true, jx_tab, kX7_odds, eX7_odds, e6, g1, g3, hq]
      have hm : ∀ q : Int64 → jx_M → Prop, q (-9223372036854775808) M → jx_L (d + 20) mX8_odds [.ref 36, .int (nI p), .int b, .int c] M q := by
        intro q hq
        simp (disch := first | assumption | omega | decide) only [jx_qI_a, jx_qV_a, jx_qL_a, jn_LL, true_or, or_true, true_and, and_true, false_or, or_false, false_and, and_false, if_true, if_false, not_true_eq_false, not_false_eq_true, jx_tab, kX8_odds, eX8_odds, g2, g4, hq]
      exact hx _ (hm _ ⟨rfl, hI⟩)
    · have g3 := fun M d q => tp_isMonth_y (d := d) (q := q) (M := M) hm
      have g4 := fun M d q => tq_isMonths_y (d := d) (q := q) (M := M) hm
      rcases jx_ix c (n := 2) (by omega) with hn | ⟨W, hW, rfl⟩
      · have hx : ∀ q : Int64 → jx_M → Prop, q (-9223372036854775808) M → jx_L (d + 20) mX7_odds [.ref 0, .int (nI p), .int (nI m), .int c] M q := by
          intro q hq
          by_cases hb : c < 0
          · simp (disch := first | assumption | omega | decide) only [jx_qI_a, jx_qV_a, jx_qL_a, jn_LL, true_or, or_true, true_and, and_true, false_or, or_false, false_and, and_false, if_true, if_false, not_true_eq_false, not_false_eq_true, jx_tab, kX7_odds, eX7_odds, e6, g1, g3, hb, hq]
          · have hb2 := hn.resolve_left hb
            have hb3 : ¬ c ≤ 1 := jn_nle (n := 1) (by decide) hb2
            simp (disch := first | assumption | omega | decide) only [jx_qI_a, jx_qV_a, jx_qL_a, jn_LL, true_or, or_true, true_and, and_true, false_or, or_false, false_and, and_false, if_true, if_false, not_true_eq_false, not_false_eq_true, jx_tab, kX7_odds, eX7_odds, e6, g1, g3, hb, hb3, hq]
        have hm : ∀ q : Int64 → jx_M → Prop, q (-9223372036854775808) M → jx_L (d + 20) mX8_odds [.ref 36, .int (nI p), .int (nI m), .int c] M q := by
          intro q hq
          have e : (1 : Int32) < c ↔ nI 2 ≤ c := (jn_ge (n := 1) (by decide)).symm
          by_cases hb : c < 0
          · simp (disch := first | assumption | omega | decide) only [jx_qI_a, jx_qV_a, jx_qL_a, jn_LL, true_or, or_true, true_and, and_true, false_or, or_false, false_and, and_false, if_true, if_false, not_true_eq_false, not_false_eq_true, jx_tab, kX8_odds, eX8_odds, g2, g4, tq_within, hb, hq]
          · have hb2 := hn.resolve_left hb
            simp (disch := first | assumption | omega | decide) only [jx_qI_a, jx_qV_a, jx_qL_a, jn_LL, true_or, or_true, true_and, and_true, false_or, or_false, false_and, and_false, if_true, if_false, not_true_eq_false, not_false_eq_true, jx_tab, kX8_odds, eX8_odds, g2, g4, tq_within, hb, e, hb2, hq]
        exact hx _ (hm _ ⟨rfl, hI⟩)
      · have g7 := fun d q => tp_everybody (d := d) (q := q) ho hr hC
        have h1 := Nat.two_pow_pos (s 0 0)
        have n0 : (0 : Int32) = nI 0 := fa_lit 0
        have hx : ∀ q : Int64 → jx_M → Prop, q ((if W = 0 then nI (tp_hv 5 (tp_ct s (tp_lo s p m) (s 5 p) (2 ^ s 0 0)) (2 ^ s 0 0)).1 else nI (tp_hv 5 (tp_ct s (tp_lo s p m) (s 5 p) (2 ^ s 0 0)) (2 ^ s 0 0)).2).toInt64) M → jx_L (d + 20) mX7_odds [.ref 0, .int (nI p), .int (nI m), .int (nI W)] M q := by
          intro q hq
          have g := tp_odds_l1 (d := d) ho hr e6 hC hp (show m ≤ 9 by omega) hW (Q := jx_qL q) (2 ^ s 0 0) 0 (Nat.zero_add _)
          rw [jx_qL_a] at g
          have e1 : 2 ^ s 0 0 - 1 + 1 = 2 ^ s 0 0 := by omega
          simp (disch := first | assumption | omega | decide) only [jx_qI_a, jx_qV_a, jx_qL_a, jn_lt, jn_le, jn_eq, jn_L, jn_A, jn_N, jn_LL, jn_add, jn_mul, jn_sub, jn_cl, jn_vin, jn_shl1, jn_shr, jn_or, jn_l_or0, jn_and1, jo_ltT, jo_ltF, jo_leT, jo_leF, jo_eqT, jo_eqF, true_or, or_true, true_and, and_true, false_or, or_false, false_and, and_false, if_true, if_false, not_true_eq_false, not_false_eq_true, jx_tab, kX7_odds, eX7_odds, e6, g1, g3, g7, e1]
          rw [n0]
          exact g.mpr hq
        have hm : ∀ q : Int64 → jx_M → Prop, q ((if W = 0 then nI (tp_hv 5 (tp_ct s (tp_lo s p m) (s 5 p) (2 ^ s 0 0)) (2 ^ s 0 0)).1 else nI (tp_hv 5 (tp_ct s (tp_lo s p m) (s 5 p) (2 ^ s 0 0)) (2 ^ s 0 0)).2).toInt64) M → jx_L (d + 20) mX8_odds [.ref 36, .int (nI p), .int (nI m), .int (nI W)] M q := by
          intro q hq
          have g := tq_odds_l (d := d) hr hD hp (show m ≤ 9 by omega) hW (Q := jx_qL q) (2 ^ s 0 0) 0 (Nat.zero_add _)
          rw [jx_qL_a] at g
          simp (disch := first | assumption | omega | decide) only [jx_qI_a, jx_qV_a, jx_qL_a, jn_lt, jn_le, jn_eq, jn_L, jn_A, jn_N, jn_LL, jn_add, jn_mul, jn_sub, jn_cl, jn_vin, jn_shl1, jn_shr, jn_or, jn_l_or0, jn_and1, jo_ltT, jo_ltF, jo_leT, jo_leF, jo_eqT, jo_eqF, true_or, or_true, true_and, and_true, false_or, or_false, false_and, and_false, if_true, if_false, not_true_eq_false, not_false_eq_true, jx_tab, kX8_odds, eX8_odds, g2, g4, tq_within]
          rw [n0]
          exact g.mpr hq
        exact hx _ (hm _ ⟨rfl, hI⟩)
end TPD
