/-! who takes it: the class asks five times, the reference till one would be asked again -/
def tp_at (s : tp_S) (p : Nat) : Nat → Nat
  | 0 => p
  | j + 1 => s 2 (tp_at s p j)
abbrev tp_acc (s : tp_S) (ah lo x : Nat) : Prop := ah / 2 ^ x % 2 = 1 ∧ lo ≤ s 1 x
theorem tp_b_iff (n x : Nat) : n / 2 ^ x % 2 = 1 ↔ n.testBit x = true := by
  rw [Nat.testBit_eq_decide_div_mod_eq, decide_eq_true_eq]
theorem tp_skip {s : tp_S} {ah lo p : Nat} : ∀ j, (∀ i, i < j → tp_at s p i < s 0 0 ∧ ¬ tp_acc s ah lo (tp_at s p i)) → ∀ n, tp_tk s ah lo (j + n) p = tp_tk s ah lo n (tp_at s p j)
  | 0, _, n => by rw [Nat.zero_add]; rfl
  | j + 1, h, n => by
    rw [show j + 1 + n = j + (n + 1) by omega, tp_skip j (fun i hi => h i (by omega)) (n + 1)]
    obtain ⟨h1, h2⟩ := h j (by omega)
    rw [tp_tk, if_pos h1, if_neg h2]
    rfl
theorem tp_shift {s : tp_S} {p i j : Nat} (h : tp_at s p i = tp_at s p j) : ∀ t, tp_at s p (i + t) = tp_at s p (j + t)
  | 0 => h
  | t + 1 => by
    show s 2 (tp_at s p (i + t)) = s 2 (tp_at s p (j + t))
    rw [tp_shift h t]
theorem tp_cycle {s : tp_S} {ah lo p i j : Nat} (hij : i < j) (h : tp_at s p i = tp_at s p j) (hall : ∀ i, i < j → tp_at s p i < s 0 0 ∧ ¬ tp_acc s ah lo (tp_at s p i)) (n : Nat) : tp_tk s ah lo n p = none := by
  have key : ∀ N k, k < N → tp_at s p k < s 0 0 ∧ ¬ tp_acc s ah lo (tp_at s p k) := by
    intro N
    induction N with
    | zero => intro k hk; omega
    | succ N ih =>
      intro k hk
      by_cases hkj : k < j
      · exact hall k hkj
      · have e := tp_shift h (k - j)
        rw [show j + (k - j) = k by omega] at e
        rw [← e]
        exact ih _ (by omega)
  have := tp_skip n (fun i hi => key n i hi) 0
  rw [Nat.add_zero] at this
  rw [this]
  rfl
theorem tp_tk_lt {s : tp_S} {ah lo : Nat} : ∀ n p x, tp_tk s ah lo n p = some x → x < s 0 0
  | 0, _, _, h => by cases h
  | n + 1, p, x, h => by
    rw [tp_tk] at h
    split at h
    · next hp =>
      split at h
      · cases h; exact hp
      · exact tp_tk_lt n _ x h
    · cases h
theorem tp_tk_cong {s : tp_S} {ah ah' lo : Nat} (h : ∀ x, x < s 0 0 → (ah / 2 ^ x % 2 = 1 ↔ ah' / 2 ^ x % 2 = 1)) : ∀ n p, tp_tk s ah lo n p = tp_tk s ah' lo n p
  | 0, _ => rfl
  | n + 1, p => by
    rw [tp_tk, tp_tk]
    by_cases hp : p < s 0 0
    · rw [if_pos hp, if_pos hp, tp_tk_cong h n]
      by_cases hc : ah / 2 ^ p % 2 = 1 ∧ lo ≤ s 1 p
      · rw [if_pos hc, if_pos ⟨(h p hp).mp hc.1, hc.2⟩]
      · rw [if_neg hc, if_neg (fun z => hc ⟨(h p hp).mpr z.1, z.2⟩)]
    · rw [if_neg hp, if_neg hp]
section TPW
variable {d o : Nat} {M : jx_M} {s : tp_S} {q : Int32 → jx_M → Prop}
theorem tq_ownerOf_l (hr : tp_rg s) (hD : tp_D M s) {c m aw ah p0 : Nat} (hc : c < s 0 1) (hm : m < 100) (hlo : tp_lo s c m < 100) (haw : aw < 100) (hah : ∀ x, x < s 0 0 → (aw / 2 ^ x % 2 = 0 ↔ ah / 2 ^ x % 2 = 1)) {Q : jx_Po} :
    ∀ k j p am, j + k = 6 → p = tp_at s p0 j → p < 100 → (∀ i, i < j → tp_at s p0 i < s 0 0 ∧ ¬ tp_acc s ah (tp_lo s c m) (tp_at s p0 i)) → (∀ i i', i < i' → i' < j → tp_at s p0 i ≠ tp_at s p0 i') → am < 64 → (∀ x, am / 2 ^ x % 2 = 1 ↔ ∃ i, i < j ∧ tp_at s p0 i = x) →
      (jx_Ev (d + 1) mX8_ownerOf 11 [some (.ref 36), some (.int (nI c)), some (.int (nI m)), some (.int (nI aw)), some (.int (nI am)), some (.int (nI p))] [] M Q ↔ Q [.int (tp_r (tp_tk s ah (tp_lo s c m) 5 p0))] M)
  | 0, j, p, am, h, hp, hp100, hall, hdist, ham, hbit => by
    have := fb_holes (s 0 0) j (tp_at s p0) (fun i hi => (hall i hi).1) hdist
    have := hr.1
    omega
  | k + 1, j, p, am, h, hp, hp100, hall, hdist, ham, hbit => by
    have hj5 := fb_holes (s 0 0) j (tp_at s p0) (fun i hi => (hall i hi).1) hdist
    have hP5 := hr.1
    have hl := fun d q => tq_loudOf (d := d) (q := q) hr hD hc hm
    have sk := tp_skip j hall (5 - j)
    rw [show j + (5 - j) = 5 by omega, ← hp] at sk
    rw [eX8_ownerOf_11]
    by_cases hpp : p < s 0 0
    · have hh := fun d q => tq_isPerson_y (d := d) (q := q) hr hD hpp
      obtain ⟨g1, g2⟩ := hr.2.2.2.2.1 p hpp
      obtain ⟨k1, k2⟩ := hD.2.2.2.2.1 p hpp
      have hb1 : am / 2 ^ p < 2147483648 := Nat.lt_of_le_of_lt (Nat.div_le_self _ _) (by omega)
      have hb2 : am / 2 ^ p % 2 < 2 := Nat.mod_lt _ (by decide)
      have hb3 : aw / 2 ^ p < 2147483648 := Nat.lt_of_le_of_lt (Nat.div_le_self _ _) (by omega)
      have hb4 : aw / 2 ^ p % 2 < 2 := Nat.mod_lt _ (by decide)
      by_cases hbit1 : am / 2 ^ p % 2 = 1
      · obtain ⟨i, hi, e⟩ := (hbit p).mp hbit1
        have hnone := tp_cycle hi (e.trans hp) hall 5
        rw [hnone]
        simp (disch := first | assumption | omega | decide) only [jx_qI_a, jx_qV_a, jx_qL_a, jn_lt, jn_le, jn_eq, jn_L, jn_A, jn_N, jn_LL, jn_add, jn_mul, jn_sub, jn_cl, jn_vin, jn_shl1, jn_shr, jn_or, jn_l_or0, jn_and1, jo_ltT, jo_ltF, jo_leT, jo_leF, jo_eqT, jo_eqF, true_or, or_true, true_and, and_true, false_or, or_false, false_and, and_false, if_true, if_false, not_true_eq_false, not_false_eq_true, jx_tab, eX8_ownerOf, hh, tp_r]
      · have hj4 : j + 1 ≤ s 0 0 := by
          refine fb_holes (s 0 0) (j + 1) (tp_at s p0) (fun i hi => ?_) (fun i i' h1 h2 => ?_)
          · by_cases e : i = j
            · subst e; rw [← hp]; exact hpp
            · exact (hall i (by omega)).1
          · by_cases e : i' = j
            · subst e
              intro z
              exact hbit1 ((hbit p).mpr ⟨i, h1, by rw [z, ← hp]⟩)
            · exact hdist i i' h1 (by omega)
        by_cases hacc : tp_acc s ah (tp_lo s c m) p
        · have sk2 : tp_tk s ah (tp_lo s c m) (5 - j) p = some p := by
            rw [show 5 - j = (4 - j) + 1 by omega, tp_tk, if_pos hpp, if_pos hacc]
          rw [sk, sk2]
          have a1 := (hah p hpp).mpr hacc.1
          have a2 := hacc.2
          simp (disch := first | assumption | omega | decide) only [jx_qI_a, jx_qV_a, jx_qL_a, jn_lt, jn_le, jn_eq, jn_L, jn_A, jn_N, jn_LL, jn_add, jn_mul, jn_sub, jn_cl, jn_vin, jn_shl1, jn_shr, jn_or, jn_l_or0, jn_and1, jo_ltT, jo_ltF, jo_leT, jo_leF, jo_eqT, jo_eqF, true_or, or_true, true_and, and_true, false_or, or_false, false_and, and_false, if_true, if_false, not_true_eq_false, not_false_eq_true, jx_tab, eX8_ownerOf, hh, hl, k1, k2, tp_r]
        · have hp100' : s 2 p < 100 := by omega
          have hor : am ||| 2 ^ p < 64 := Nat.or_lt_two_pow (n := 6) ham (Nat.lt_of_lt_of_le (Nat.pow_lt_pow_right (by decide) (show p < 5 by omega)) (by decide))
          have ih := tq_ownerOf_l hr hD hc hm hlo haw hah (Q := Q) k (j + 1) (s 2 p) (am ||| 2 ^ p) (by omega) (by rw [hp]; rfl) hp100' (fun i hi => by
              by_cases e : i = j
              · subst e; rw [← hp]; exact ⟨hpp, hacc⟩
              · exact hall i (by omega)) (fun i i' h1 h2 => by
              by_cases e : i' = j
              · subst e
                intro z
                exact hbit1 ((hbit p).mpr ⟨i, h1, by rw [z, ← hp]⟩)
              · exact hdist i i' h1 (by omega)) hor (fun x => by
              rw [tp_b_iff, fb_bit_set, Bool.or_eq_true, decide_eq_true_eq, ← tp_b_iff, hbit x]
              constructor
              · rintro (⟨i, hi, e⟩ | e)
                · exact ⟨i, by omega, e⟩
                · exact ⟨j, by omega, by rw [e, ← hp]⟩
              · rintro ⟨i, hi, e⟩
                by_cases z : i = j
                · subst z; exact Or.inr (by rw [← e, ← hp])
                · exact Or.inl ⟨i, by omega, e⟩)
          by_cases e1 : aw / 2 ^ p % 2 = 0
          · have a2 : ¬ tp_lo s c m ≤ s 1 p := fun z => hacc ⟨(hah p hpp).mp e1, z⟩
            simp (disch := first | assumption | omega | decide) only [jx_qI_a, jx_qV_a, jx_qL_a, jn_lt, jn_le, jn_eq, jn_L, jn_A, jn_N, jn_LL, jn_add, jn_mul, jn_sub, jn_cl, jn_vin, jn_shl1, jn_shr, jn_or, jn_l_or0, jn_and1, jo_ltT, jo_ltF, jo_leT, jo_leF, jo_eqT, jo_eqF, true_or, or_true, true_and, and_true, false_or, or_false, false_and, and_false, if_true, if_false, not_true_eq_false, not_false_eq_true, jx_tab, eX8_ownerOf, hh, hl, k1, k2, ih]
          · simp (disch := first | assumption | omega | decide) only [jx_qI_a, jx_qV_a, jx_qL_a, jn_lt, jn_le, jn_eq, jn_L, jn_A, jn_N, jn_LL, jn_add, jn_mul, jn_sub, jn_cl, jn_vin, jn_shl1, jn_shr, jn_or, jn_l_or0, jn_and1, jo_ltT, jo_ltF, jo_leT, jo_leF, jo_eqT, jo_eqF, true_or, or_true, true_and, and_true, false_or, or_false, false_and, and_false, if_true, if_false, not_true_eq_false, not_false_eq_true, jx_tab, eX8_ownerOf, hh, hl, k1, k2, ih]
    · have hh := fun d q => tq_isPerson_n (d := d) (q := q) (x := nI p) hr hD (Or.inr ((jn_le (by omega) (by omega)).mpr (by omega)))
      have sk2 : tp_tk s ah (tp_lo s c m) (5 - j) p = none := by
        cases (5 - j) with
        | zero => rfl
        | succ n => rw [tp_tk, if_neg hpp]
      rw [sk, sk2]
      simp (disch := first | assumption | omega | decide) only [jx_qI_a, jx_qV_a, jx_qL_a, jn_lt, jn_le, jn_eq, jn_L, jn_A, jn_N, jn_LL, jn_add, jn_mul, jn_sub, jn_cl, jn_vin, jn_shl1, jn_shr, jn_or, jn_l_or0, jn_and1, jo_ltT, jo_ltF, jo_leT, jo_leF, jo_eqT, jo_eqF, true_or, or_true, true_and, and_true, false_or, or_false, false_and, and_false, if_true, if_false, not_true_eq_false, not_false_eq_true, jx_tab, eX8_ownerOf, hh, tp_r]
theorem tp_compl {P aw x : Nat} (haw : aw < 2 ^ P) (hx : x < P) : aw / 2 ^ x % 2 = 0 ↔ (2 ^ P - 1 - aw) / 2 ^ x % 2 = 1 := by
  have e : 2 ^ P - 1 - aw = 2 ^ P - (aw + 1) := by omega
  have h2 : aw / 2 ^ x % 2 < 2 := Nat.mod_lt _ (by decide)
  rw [tp_b_iff, e, Nat.testBit_two_pow_sub_succ haw, Bool.and_eq_true, decide_eq_true_eq, Bool.not_eq_true', ← Bool.not_eq_true, ← tp_b_iff]
  omega
theorem tq_ownerOf (hr : tp_rg s) (hD : tp_D M s) {c m aw : Nat} (hc : c < s 0 1) (hm : m ≤ 9) (haw : aw < 2 ^ s 0 0) : jx_I (d + 1) mX8_ownerOf [.ref 36, .int (nI c), .int (nI m), .int (nI aw)] M q ↔ q (tp_r (tp_tk s (2 ^ s 0 0 - 1 - aw) (tp_lo s c m) 5 (s 5 c))) M := by
  have hlo := tp_lo_le hr hc hm
  have g := hr.2.2.2.2.2 c hc
  have h32 : 2 ^ s 0 0 ≤ 32 := Nat.pow_le_pow_right (n := 2) (by decide) hr.1
  have h := tq_ownerOf_l (d := d) hr hD hc (show m < 100 by omega) (by omega) (show aw < 100 by omega) (fun x hx => tp_compl haw hx) (Q := jx_qI q) 6 0 (s 5 c) 0 rfl rfl (by have := hr.1; omega) (fun i hi => by omega) (fun i i' h1 h2 => by omega) (by decide) (fun x => by
    rw [Nat.zero_div]
    constructor
    · intro z; exact absurd z (by decide)
    · rintro ⟨i, hi, -⟩; omega)
  rw [jx_qI_a] at h
  obtain ⟨r1, r2, r3, r4, r5, r6⟩ := id hr
  have n0 : (0 : Int32) = nI 0 := fa_lit 0
  simp (disch := first | assumption | omega | decide) only [jx_qI_a, jx_qV_a, jx_qL_a, jn_lt, jn_le, jn_eq, jn_L, jn_A, jn_N, jn_LL, jn_add, jn_mul, jn_sub, jn_cl, jn_vin, jn_shl1, jn_shr, jn_or, jn_l_or0, jn_and1, jo_ltT, jo_ltF, jo_leT, jo_leF, jo_eqT, jo_eqF, true_or, or_true, true_and, and_true, false_or, or_false, false_and, and_false, if_true, if_false, not_true_eq_false, not_false_eq_true, jx_tab, kX8_ownerOf, eX8_ownerOf, (hD.2.2.2.2.2 c hc).2.2]
  rw [n0]
  exact h
theorem tq_ownerOf0 (hr : tp_rg s) (hD : tp_D M s) {c m : Nat} (hc : c < s 0 1) (hm : m ≤ 9) : jx_I (d + 1) mX8_ownerOf [.ref 36, .int (nI c), .int (nI m), .int 0] M q ↔ q (tp_r (tp_tk s (2 ^ s 0 0 - 1) (tp_lo s c m) 5 (s 5 c))) M := by
  have n0 : (0 : Int32) = nI 0 := fa_lit 0
  have := tq_ownerOf (d := d) (q := q) hr hD hc hm (aw := 0) (Nat.two_pow_pos _)
  rw [Nat.sub_zero] at this
  rw [n0]
  exact this
theorem op_owner (h : tp_I M) (a b : Int32) : jx_I (d + 20) mX7_owner [.ref 0, .int a, .int b] M (fun r M1 => jx_I (d + 20) mX8_owner [.ref 36, .int a, .int b] M1 (fun r2 M2 => r = r2 ∧ tp_I M2)) := by
  have hI := h
  obtain ⟨s, o, ho, h06, h07, hr, hC, hD, hf, ht, hrd, hsh⟩ := h
  have e6 : jx_rv (M 0 6) = .ref o := by rw [h06]; exact tp_rvn (by rcases ho with rfl | rfl <;> decide)
  obtain ⟨o0, o1, o2, o3, o4, o5, z1, z2, z3, z4, z5⟩ := tp_Ot ho
  obtain ⟨r1, r2, r3, r4, r5, r6⟩ := id hr
  rcases jx_ix a (n := s 0 1) (by omega) with hn | ⟨p, hp, rfl⟩
  · have g1 := fun d q => tp_hasClap_n (d := d) (q := q) ho hr hC hn
    have g2 := fun d q => tq_isClap_n (d := d) (q := q) hr hD hn
    simp (disch := first | assumption | omega | decide) only [jx_qI_a, jx_qV_a, jx_qL_a, jn_LL, true_or, or_true, true_and, and_true, false_or, or_false, false_and, and_false, if_true, if_false, not_true_eq_false, not_false_eq_true, jx_tab, kX7_owner, eX7_owner, e6, g1, kX8_owner, eX8_owner, g2, hI]
  · have g1 := fun d q => tp_hasClap_y (d := d) (q := q) ho hr hC hp
    have g2 := fun d q => tq_isClap_y (d := d) (q := q) hr hD hp
    rcases jx_ix b (n := 10) (by omega) with hn | ⟨m, hm, rfl⟩
    · have g3 := fun M d q => tp_isMonth_n (d := d) (q := q) (M := M) hn
      have g4 := fun M d q => tq_isMonths_n (d := d) (q := q) (M := M) hn
      simp (disch := first | assumption | omega | decide) only [jx_qI_a, jx_qV_a, jx_qL_a, jn_LL, true_or, or_true, true_and, and_true, false_or, or_false, false_and, and_false, if_true, if_false, not_true_eq_false, not_false_eq_true, jx_tab, kX7_owner, eX7_owner, e6, g1, g3, g4, kX8_owner, eX8_owner, g2, hI]
    · have g3 := fun M d q => tp_isMonth_y (d := d) (q := q) (M := M) hm
      have g4 := fun M d q => tq_isMonths_y (d := d) (q := q) (M := M) hm
      have g7 := fun d q => tp_everybody (d := d) (q := q) ho hr hC
      have h32 : 2 ^ s 0 0 ≤ 32 := Nat.pow_le_pow_right (n := 2) (by decide) hr.1
      have g5 := fun d q => tp_takerOf (d := d) (q := q) ho hr hC hp (show m ≤ 9 by omega) (ah := 2 ^ s 0 0 - 1) (by omega)
      have g6 := fun d q => tq_ownerOf0 (d := d) (q := q) hr hD hp (show m ≤ 9 by omega)
      simp (disch := first | assumption | omega | decide) only [jx_qI_a, jx_qV_a, jx_qL_a, jn_LL, true_or, or_true, true_and, and_true, false_or, or_false, false_and, and_false, if_true, if_false, not_true_eq_false, not_false_eq_true, jx_tab, kX7_owner, eX7_owner, e6, g1, g3, g4, g5, g6, g7, kX8_owner, eX8_owner, g2, hI]
/-- the last month, below n -/
def tp_la (s : tp_S) (c : Nat) : Nat → Int32
  | 0 => -9
  | m + 1 => if tp_tk s (2 ^ s 0 0 - 1) (tp_lo s c m) 5 (s 5 c) = none then tp_la s c m else nI m
def jm : Nat → Int32
  | 0 => -1
  | k + 1 => nI k
theorem jm_dec (k : Nat) : nI k + (-1) = jm k := by
  cases k with
  | zero => decide
  | succ k => exact sb_m1 (Nat.succ_pos k)
theorem tp_last_l (ho : tp_O o) (hr : tp_rg s) (e6 : jx_rv (M 0 6) = .ref o) (hC : tp_C M o s) {c : Nat} (hc : c < s 0 1) {Q : jx_Po} : ∀ k, k ≤ 10 → (jx_Ev (d + 20) mX7_last 16 [some (.ref 0), some (.int (nI c)), some (.int (jm k))] [] M Q ↔ Q [.int (tp_la s c k)] M)
  | 0, _ => by
    rw [eX7_last_16]
    simp (disch := first | assumption | omega | decide) only [jx_qI_a, jx_qV_a, jx_qL_a, jn_lt, jn_le, jn_eq, jn_L, jn_A, jn_N, jn_LL, jn_add, jn_mul, jn_sub, jn_cl, jn_vin, jn_shl1, jn_shr, jn_or, jn_l_or0, jn_and1, jo_ltT, jo_ltF, jo_leT, jo_leF, jo_eqT, jo_eqF, true_or, or_true, true_and, and_true, false_or, or_false, false_and, and_false, if_true, if_false, not_true_eq_false, not_false_eq_true, jx_tab, eX7_last, jm, tp_la]
  | k + 1, hk => by
    have ih := tp_last_l ho hr e6 hC hc (Q := Q) k (by omega)
    obtain ⟨o0, o1, o2, o3, o4, o5, z1, z2, z3, z4, z5⟩ := tp_Ot ho
    have g7 := fun d q => tp_everybody (d := d) (q := q) ho hr hC
    have h32 : 2 ^ s 0 0 ≤ 32 := Nat.pow_le_pow_right (n := 2) (by decide) hr.1
    have g5 := fun d q => tp_takerOf (d := d) (q := q) ho hr hC hc (show k ≤ 9 by omega) (ah := 2 ^ s 0 0 - 1) (by omega)
    rw [eX7_last_16]
    show jx_Ev (d + 20) mX7_last 17 [some (.ref 0), some (.int (nI c)), some (.int (nI k))] [.int (nI k)] M Q ↔ _
    cases hz : tp_tk s (2 ^ s 0 0 - 1) (tp_lo s c k) 5 (s 5 c) with
    | none =>
      rw [hz] at g5
      rw [tp_la, if_pos hz]
      simp (disch := first | assumption | omega | decide) only [jx_qI_a, jx_qV_a, jx_qL_a, jn_lt, jn_le, jn_eq, jn_L, jn_A, jn_N, jn_LL, jn_add, jn_mul, jn_sub, jn_cl, jn_vin, jn_shl1, jn_shr, jn_or, jn_l_or0, jn_and1, jo_ltT, jo_ltF, jo_leT, jo_leF, jo_eqT, jo_eqF, true_or, or_true, true_and, and_true, false_or, or_false, false_and, and_false, if_true, if_false, not_true_eq_false, not_false_eq_true, jx_tab, eX7_last, e6, g7, g5, tp_r, jm_dec, ih]
    | some x =>
      have hx := tp_tk_lt _ _ _ hz
      have := hr.1
      rw [hz] at g5
      rw [tp_la, if_neg (by rw [hz]; exact Option.some_ne_none x)]
      simp (disch := first | assumption | omega | decide) only [jx_qI_a, jx_qV_a, jx_qL_a, jn_lt, jn_le, jn_eq, jn_L, jn_A, jn_N, jn_LL, jn_add, jn_mul, jn_sub, jn_cl, jn_vin, jn_shl1, jn_shr, jn_or, jn_l_or0, jn_and1, jo_ltT, jo_ltF, jo_leT, jo_leF, jo_eqT, jo_eqF, true_or, or_true, true_and, and_true, false_or, or_false, false_and, and_false, if_true, if_false, not_true_eq_false, not_false_eq_true, jx_tab, eX7_last, e6, g7, g5, tp_r]
theorem tq_last_l (hr : tp_rg s) (hD : tp_D M s) {c : Nat} (hc : c < s 0 1) {Q : jx_Po} : ∀ k, k ≤ 10 → (jx_Ev (d + 20) mX8_last 13 [some (.ref 36), some (.int (nI c)), some (.int (jm k))] [] M Q ↔ Q [.int (tp_la s c k)] M)
  | 0, _ => by
    rw [eX8_last_13]
    simp (disch := first | assumption | omega | decide) only [jx_qI_a, jx_qV_a, jx_qL_a, jn_lt, jn_le, jn_eq, jn_L, jn_A, jn_N, jn_LL, jn_add, jn_mul, jn_sub, jn_cl, jn_vin, jn_shl1, jn_shr, jn_or, jn_l_or0, jn_and1, jo_ltT, jo_ltF, jo_leT, jo_leF, jo_eqT, jo_eqF, true_or, or_true, true_and, and_true, false_or, or_false, false_and, and_false, if_true, if_false, not_true_eq_false, not_false_eq_true, jx_tab, eX8_last, jm, tp_la]
  | k + 1, hk => by
    have ih := tq_last_l hr hD hc (Q := Q) k (by omega)
    have g5 := fun d q => tq_ownerOf0 (d := d) (q := q) hr hD hc (show k ≤ 9 by omega)
    rw [eX8_last_13]
    show jx_Ev (d + 20) mX8_last 14 [some (.ref 36), some (.int (nI c)), some (.int (nI k))] [.int (nI k)] M Q ↔ _
    cases hz : tp_tk s (2 ^ s 0 0 - 1) (tp_lo s c k) 5 (s 5 c) with
    | none =>
      rw [hz] at g5
      rw [tp_la, if_pos hz]
      simp (disch := first | assumption | omega | decide) only [jx_qI_a, jx_qV_a, jx_qL_a, jn_lt, jn_le, jn_eq, jn_L, jn_A, jn_N, jn_LL, jn_add, jn_mul, jn_sub, jn_cl, jn_vin, jn_shl1, jn_shr, jn_or, jn_l_or0, jn_and1, jo_ltT, jo_ltF, jo_leT, jo_leF, jo_eqT, jo_eqF, true_or, or_true, true_and, and_true, false_or, or_false, false_and, and_false, if_true, if_false, not_true_eq_false, not_false_eq_true, jx_tab, eX8_last, g5, tp_r, jm_dec, ih]
    | some x =>
      have hx := tp_tk_lt _ _ _ hz
      have := hr.1
      rw [hz] at g5
      rw [tp_la, if_neg (by rw [hz]; exact Option.some_ne_none x)]
      simp (disch := first | assumption | omega | decide) only [jx_qI_a, jx_qV_a, jx_qL_a, jn_lt, jn_le, jn_eq, jn_L, jn_A, jn_N, jn_LL, jn_add, jn_mul, jn_sub, jn_cl, jn_vin, jn_shl1, jn_shr, jn_or, jn_l_or0, jn_and1, jo_ltT, jo_ltF, jo_leT, jo_leF, jo_eqT, jo_eqF, true_or, or_true, true_and, and_true, false_or, or_false, false_and, and_false, if_true, if_false, not_true_eq_false, not_false_eq_true, jx_tab, eX8_last, g5, tp_r]
theorem op_last (h : tp_I M) (a : Int32) : jx_I (d + 20) mX7_last [.ref 0, .int a] M (fun r M1 => jx_I (d + 20) mX8_last [.ref 36, .int a] M1 (fun r2 M2 => r = r2 ∧ tp_I M2)) := by
  have hI := h
  obtain ⟨s, o, ho, h06, h07, hr, hC, hD, hf, ht, hrd, hsh⟩ := h
  have e6 : jx_rv (M 0 6) = .ref o := by rw [h06]; exact tp_rvn (by rcases ho with rfl | rfl <;> decide)
  obtain ⟨o0, o1, o2, o3, o4, o5, z1, z2, z3, z4, z5⟩ := tp_Ot ho
  obtain ⟨r1, r2, r3, r4, r5, r6⟩ := id hr
  rcases jx_ix a (n := s 0 1) (by omega) with hn | ⟨p, hp, rfl⟩
  · have g1 := fun d q => tp_hasClap_n (d := d) (q := q) ho hr hC hn
    have g2 := fun d q => tq_isClap_n (d := d) (q := q) hr hD hn
    simp (disch := first | assumption | omega | decide) only [jx_qI_a, jx_qV_a, jx_qL_a, jn_LL, true_or, or_true, true_and, and_true, false_or, or_false, false_and, and_false, if_true, if_false, not_true_eq_false, not_false_eq_true, jx_tab, kX7_last, eX7_last, e6, g1, kX8_last, eX8_last, g2, hI]
  · have g1 := fun d q => tp_hasClap_y (d := d) (q := q) ho hr hC hp
    have g2 := fun d q => tq_isClap_y (d := d) (q := q) hr hD hp
    have n9 : (9 : Int32) = jm 10 := fa_lit 9
    have hx : ∀ q : Int32 → jx_M → Prop, q (tp_la s p 10) M → jx_I (d + 20) mX7_last [.ref 0, .int (nI p)] M q := by
      intro q hq
      simp (disch := first | assumption | omega | decide) only [jx_qI_a, jx_qV_a, jx_qL_a, jn_LL, true_or, or_true, true_and, and_true, false_or, or_false, false_and, and_false, if_true, if_false, not_true_eq_false, not_false_eq_true, jx_tab, kX7_last, eX7_last, e6, g1]
      rw [n9, tp_last_l ho hr e6 hC hp 10 (by decide), jx_qI_a]
      exact hq
    have hm : ∀ q : Int32 → jx_M → Prop, q (tp_la s p 10) M → jx_I (d + 20) mX8_last [.ref 36, .int (nI p)] M q := by
      intro q hq
      simp (disch := first | assumption | omega | decide) only [jx_qI_a, jx_qV_a, jx_qL_a, jn_LL, true_or, or_true, true_and, and_true, false_or, or_false, false_and, and_false, if_true, if_false, not_true_eq_false, not_false_eq_true, jx_tab, kX8_last, eX8_last, g2]
      rw [n9, tq_last_l hr hD hp 10 (by decide), jx_qI_a]
      exact hq
    exact hx _ (hm _ ⟨rfl, hI⟩)
end TPW
