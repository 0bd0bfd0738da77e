/-! ease: the class's search -/
def te_hs (s : tp_S) (mo : Nat → Nat) (p c : Nat) : Nat → Nat
  | 0 => 0
  | m + 1 => te_hs s mo p c m + (tp_hg s mo p m c - s 1 p)
abbrev te_hc (s : tp_S) (mo : Nat → Nat) (p c : Nat) : Nat := te_hs s mo p c 4
abbrev te_B : Type := Nat × (Nat → Nat)
def te_U (s : tp_S) (p : Nat) (b : te_B) (mo : Nat → Nat) : te_B := if te_hc s mo p 6 < b.1 then (te_hc s mo p 6, mo) else b
def te_up (mo : Nat → Nat) (c m : Nat) : Nat → Nat := fun j => if j = c then m else mo j
def te_L (f : Nat → te_B → te_B) : Nat → Nat → te_B → te_B
  | _, 0, b => b
  | m, n + 1, b => te_L f (m + 1) n (f m b)
def te_F (s : tp_S) (p : Nat) : Nat → Nat → (Nat → Nat) → te_B → te_B
  | 0, _, mo, b => te_U s p b mo
  | r + 1, c, mo, b => if c < s 0 1 ∧ s 5 c = p then te_L (fun m b => te_F s p r (c + 1) (te_up mo c m) b) 0 4 b else te_F s p r (c + 1) mo b
theorem te_hs_h (s : tp_S) (mo : Nat → Nat) (p : Nat) : ∀ m, tp_h s mo p m = te_hs s mo p 6 m
  | 0 => rfl
  | m + 1 => by rw [tp_h, te_hs, te_hs_h s mo p m]
theorem te_hg_cong {s : tp_S} {mo mo' : Nat → Nat} {p m : Nat} : ∀ n, (∀ j, j < n → j < s 0 1 → s 5 j = p → mo j = mo' j) → tp_hg s mo p m n = tp_hg s mo' p m n
  | 0, _ => rfl
  | n + 1, h => by
    rw [tp_hg, tp_hg, te_hg_cong n (fun j hj => h j (by omega))]
    by_cases hc : n < s 0 1 ∧ s 5 n = p
    · rw [h n (by omega) hc.1 hc.2]
    · rw [if_neg (fun z => hc ⟨z.1, z.2.1⟩), if_neg (fun z => hc ⟨z.1, z.2.1⟩)]
theorem te_hs_cong {s : tp_S} {mo mo' : Nat → Nat} {p c : Nat} (h : ∀ j, j < c → j < s 0 1 → s 5 j = p → mo j = mo' j) : ∀ m, te_hs s mo p c m = te_hs s mo' p c m
  | 0 => rfl
  | m + 1 => by rw [te_hs, te_hs, te_hs_cong h m, te_hg_cong c h]
theorem te_hg_mono {s : tp_S} {mo : Nat → Nat} {p m n : Nat} : tp_hg s mo p m n ≤ tp_hg s mo p m (n + 1) := by rw [tp_hg]; omega
theorem te_hs_mono {s : tp_S} {mo : Nat → Nat} {p c : Nat} : ∀ m, te_hs s mo p c m ≤ te_hs s mo p (c + 1) m
  | 0 => Nat.le_refl _
  | m + 1 => by
    have := te_hs_mono (s := s) (mo := mo) (p := p) (c := c) m
    have := te_hg_mono (s := s) (mo := mo) (p := p) (m := m) (n := c)
    rw [te_hs, te_hs]; omega
theorem te_up_c {s : tp_S} {mo : Nat → Nat} {p c m k : Nat} : te_hs s (te_up mo c m) p c k = te_hs s mo p c k := te_hs_cong (fun j hj _ _ => by rw [te_up, if_neg (by omega)]) k
theorem te_hc_le {s : tp_S} (hr : tp_rg s) {mo : Nat → Nat} {p c : Nat} (hc : c ≤ 6) : ∀ k, k ≤ 4 → te_hs s mo p c k ≤ 432 * k
  | 0, _ => by rw [te_hs]; omega
  | k + 1, h => by
    have := te_hc_le hr (mo := mo) (p := p) hc k (by omega)
    have := tp_hg_le hr (mo := mo) (p := p) (show k ≤ 9 by omega) c
    rw [te_hs]; omega
theorem te_L_same {f : Nat → te_B → te_B} : ∀ n m b, (∀ k, f k b = b) → te_L f m n b = b
  | 0, _, _, _ => rfl
  | n + 1, m, b, h => by rw [te_L, h m]; exact te_L_same n (m + 1) b h
theorem te_prune {s : tp_S} {p : Nat} : ∀ r c mo b, c + r = 6 → b.1 ≤ te_hc s mo p c → te_F s p r c mo b = b
  | 0, c, mo, b, h, hb => by
    have h : c = 6 := h
    subst h
    rw [te_F, te_U, if_neg (by omega)]
  | r + 1, c, mo, b, h, hb => by
    rw [te_F]
    by_cases hc : c < s 0 1 ∧ s 5 c = p
    · rw [if_pos hc]
      apply te_L_same
      intro k
      apply te_prune r (c + 1) _ b (by omega)
      have h1 := te_hs_mono (s := s) (mo := te_up mo c k) (p := p) (c := c) 4
      rw [te_up_c] at h1
      exact Nat.le_trans hb h1
    · rw [if_neg hc]
      exact te_prune r (c + 1) mo b (by omega) (Nat.le_trans hb (te_hs_mono 4))
theorem te_hg_up {s : tp_S} {mo : Nat → Nat} {p c m : Nat} (hc : c < s 0 1) (h5 : s 5 c = p) (k : Nat) : tp_hg s (te_up mo c m) p k (c + 1) = tp_hg s mo p k c + (if k = m then tp_lo s c k else 0) := by
  rw [tp_hg, te_hg_cong (mo := te_up mo c m) (mo' := mo) c (fun j hj _ _ => by rw [te_up, if_neg (by omega)])]
  congr 1
  by_cases e : k = m
  · rw [if_pos e, if_pos ⟨hc, h5, by rw [te_up, if_pos rfl, e]⟩]
  · rw [if_neg e, if_neg (fun z => e (by rw [← z.2.2, te_up, if_pos rfl]))]
theorem te_hg_nf {s : tp_S} {mo : Nat → Nat} {p c k : Nat} (hc : ¬ (c < s 0 1 ∧ s 5 c = p)) : tp_hg s mo p k (c + 1) = tp_hg s mo p k c := by
  rw [tp_hg, if_neg (fun z => hc ⟨z.1, z.2.1⟩), Nat.add_zero]
theorem te_hs_nf {s : tp_S} {mo : Nat → Nat} {p c : Nat} (hc : ¬ (c < s 0 1 ∧ s 5 c = p)) : ∀ k, te_hs s mo p (c + 1) k = te_hs s mo p c k
  | 0 => rfl
  | k + 1 => by rw [te_hs, te_hs, te_hs_nf hc k, te_hg_nf hc]
theorem te_hc_up {s : tp_S} {mo : Nat → Nat} {p c m : Nat} (hc : c < s 0 1) (h5 : s 5 c = p) (hm : m < 4) : te_hc s (te_up mo c m) p (c + 1) = te_hc s mo p c + (tp_hg s mo p m c + tp_lo s c m - s 1 p) - (tp_hg s mo p m c - s 1 p) := by
  have g := fun k => te_hg_up (mo := mo) (m := m) hc h5 k
  simp only [te_hc, te_hs, g]
  rcases (show m = 0 ∨ m = 1 ∨ m = 2 ∨ m = 3 by omega) with rfl | rfl | rfl | rfl <;> simp <;> omega
/-- the search's cells -/
def te_E (M : jx_M) (s : tp_S) (o p c : Nat) (mo : Nat → Nat) (b : te_B) : Prop := M 9 1 = nI b.1 ∧ M 9 4 = nI o ∧ M 9 5 = nI p ∧ (∀ m, m < 4 → M 12 m = nI (tp_hg s mo p m c)) ∧ (∀ j, j < c → j < s 0 1 → s 5 j = p → M 11 j = nI (mo j)) ∧ (b.1 < 2147483647 → ∀ j, j < s 0 1 → s 5 j = p → M 10 j = nI (b.2 j)) ∧ b.1 ≤ 2147483647
section TE
variable {d o : Nat} {s : tp_S} {q : Int32 → jx_M → Prop} {qv : jx_M → Prop}
theorem te_harmIn {M : jx_M} (ho : tp_O o) (hr : tp_rg s) (hC : tp_C M o s) {p m g : Nat} (h4 : M 9 4 = nI o) (h5 : M 9 5 = nI p) (hp : p < s 0 0) (hm : m < 4) (hg : g < 1000) (h12 : M 12 m = nI g) : jx_I (d + 2) mX0_harmIn [.ref 9, .int (nI m)] M q ↔ q (nI (g - s 1 p)) M := by
  have e4 : jx_rv (M 9 4) = .ref o := by rw [h4]; exact tp_rvn (by rcases ho with rfl | rfl <;> decide)
  have hh := fun d q => tp_hasPerson_y (d := d) (q := q) ho hr hC hp
  obtain ⟨g1, g2⟩ := hr.2.2.2.2.1 p hp
  have k1 := (hC.2.2.2.2.1 p hp).1
  have e := jn_max (a := g) (b := s 1 p) (by omega) (by omega)
  obtain ⟨o0, o1, o2, o3, o4, o5, z1, z2, z3, z4, z5⟩ := tp_Ot ho
  obtain ⟨r1, r2, r3, r4, r5, r6⟩ := id hr
  simp (disch := first | assumption | omega | decide) only [kX0_harmIn, eX0_harmIn, e4, h5, hh, h12, k1, z1, jx_tab, jx_qI_a, jn_vin, jn_cl, jn_LL, jo_ltT, if_true, if_false, true_and, e]
theorem te_keep_l {Q : jx_Po} : ∀ r c (M : jx_M) (l1 : Option Value), c + r = 6 → (∀ j, j < c → M 10 j = M 11 j) → (∀ M' : jx_M, (∀ a b, a ≠ 10 → M' a b = M a b) → (∀ j, j < 6 → M' 10 j = M 11 j) → Q [] M') → jx_Ev d mX0_keepBest 7 [some (.ref 9), l1, some (.int (nI c))] [] M Q
  | 0, c, M, l1, h, h10, k => by
    have h : c = 6 := h
    subst h
    have := k M (fun _ _ _ => rfl) h10
    rw [eX0_keepBest_7]
    simp (disch := first | assumption | omega | decide) only [jx_qI_a, jx_qV_a, jx_qL_a, jn_lt, jn_le, jn_eq, jn_L, jn_A, jn_N, jn_LL, jn_add, jn_mul, jn_sub, jn_cl, jn_vin, jn_shl1, jn_shr, jn_or, jn_l_or0, jn_and1, jo_ltT, jo_ltF, jo_leT, jo_leF, jo_eqT, jo_eqF, true_or, or_true, true_and, and_true, false_or, or_false, false_and, and_false, if_true, if_false, not_true_eq_false, not_false_eq_true, jx_tab, eX0_keepBest, this]
  | r + 1, c, M, l1, h, h10, k => by
    have ih := te_keep_l (Q := Q) r (c + 1) (jx_up M 10 c (M 11 c)) l1 (by omega) (fun j hj => by
      rw [jx_upE, jx_upE]
      by_cases e : j = c
      · rw [if_pos ⟨rfl, e⟩, if_neg (by omega), e]
      · rw [if_neg (by omega), if_neg (by omega)]; exact h10 j (by omega)) (fun M' e1 e2 => k M' (fun a b z => by rw [e1 a b z, jx_upE, if_neg (by omega)]) (fun j hj => by rw [e2 j hj, jx_upE, if_neg (by omega)]))
    rw [eX0_keepBest_7]
    simp (disch := first | assumption | omega | decide) only [jx_qI_a, jx_qV_a, jx_qL_a, jn_lt, jn_le, jn_eq, jn_L, jn_A, jn_N, jn_LL, jn_add, jn_mul, jn_sub, jn_cl, jn_vin, jn_shl1, jn_shr, jn_or, jn_l_or0, jn_and1, jo_ltT, jo_ltF, jo_leT, jo_leF, jo_eqT, jo_eqF, true_or, or_true, true_and, and_true, false_or, or_false, false_and, and_false, if_true, if_false, not_true_eq_false, not_false_eq_true, jx_tab, eX0_keepBest, ih]
theorem te_keep {M : jx_M} {x : Int32} (k : ∀ M' : jx_M, M' 9 1 = x → (∀ a b, a ≠ 10 → ¬ (a = 9 ∧ b = 1) → M' a b = M a b) → (∀ j, j < 6 → M' 10 j = M 11 j) → qv M') : jx_V d mX0_keepBest [.ref 9, .int x] M qv := by
  have g := te_keep_l (d := d) (Q := jx_qV qv) 6 0 (jx_up M 9 1 x) (some (.int x)) rfl (fun j hj => by omega) (fun M' e1 e2 => by
    rw [jx_qV_a]
    exact k M' (by rw [e1 _ _ (by decide)]; simp [jx_upE]) (fun a b z1 z2 => by rw [e1 a b z1, jx_upE, if_neg z2]) (fun j hj => by rw [e2 j hj, jx_upE, if_neg (by omega)]))
  simp (disch := first | assumption | omega | decide) only [kX0_keepBest, eX0_keepBest]
  exact g
/-- one month of the clap c, and those behind it -/
theorem te_month {r c p : Nat} {mo : Nat → Nat} (ho : tp_O o) (hr : tp_rg s) (hp : p < s 0 0) (hcr : c + (r + 1) = 6) (hc : c < s 0 1) (h5 : s 5 c = p)
    (H : ∀ (mo : Nat → Nat) (b : te_B) (M : jx_M) (qv : jx_M → Prop), tp_C M o s → te_E M s o p (c + 1) mo b → (∀ M' : jx_M, (∀ a b, a ≠ 9 → a ≠ 10 → a ≠ 11 → a ≠ 12 → M' a b = M a b) → te_E M' s o p (c + 1) mo (te_F s p r (c + 1) mo b) → qv M') → jx_V (d + r + 4) mX0_settleFrom [.ref 9, .int (nI (c + 1)), .int (nI (te_hc s mo p (c + 1)))] M qv) {Q : jx_Po} :
    ∀ n m b (M : jx_M) (l4 l5 : Option Value), m + n = 4 → tp_C M o s → te_E M s o p c mo b → (∀ M' : jx_M, (∀ a b, a ≠ 9 → a ≠ 10 → a ≠ 11 → a ≠ 12 → M' a b = M a b) → te_E M' s o p c mo (te_L (fun m b => te_F s p r (c + 1) (te_up mo c m) b) m n b) → Q [] M') → jx_Ev (d + r + 5) mX0_settleFrom 54 [some (.ref 9), some (.int (nI c)), some (.int (nI (te_hc s mo p c))), some (.int (nI m)), l4, l5] [] M Q
  | 0, m, b, M, l4, l5, h, hC, hE, k => by
    have h : m = 4 := h
    subst h
    have := k M (fun _ _ _ _ _ _ => rfl) hE
    rw [eX0_settleFrom_54]
    simp (disch := first | assumption | omega | decide) only [jx_qI_a, jx_qV_a, jx_qL_a, jn_lt, jn_le, jn_eq, jn_L, jn_A, jn_N, jn_LL, jn_add, jn_mul, jn_sub, jn_cl, jn_vin, jn_shl1, jn_shr, jn_or, jn_l_or0, jn_and1, jo_ltT, jo_ltF, jo_leT, jo_leF, jo_eqT, jo_eqF, true_or, or_true, true_and, and_true, false_or, or_false, false_and, and_false, if_true, if_false, not_true_eq_false, not_false_eq_true, jx_tab, eX0_settleFrom, this]
  | n + 1, m, b, M, l4, l5, h, hC, hE, k => by
    have hoo : o = 16 ∨ o = 22 := ho
    obtain ⟨f1, f4, f5, f12, f11, f10, fb⟩ := id hE
    have e4 : jx_rv (M 9 4) = .ref o := by rw [f4]; exact tp_rvn (by omega)
    have hm9 : m ≤ 9 := by omega
    have hg6 := tp_hg_le hr (mo := mo) (p := p) hm9 c
    have hlo := tp_lo_le hr hc hm9
    have hhc : te_hc s mo p c ≤ 432 * 4 := te_hc_le hr (mo := mo) (p := p) (c := c) (by omega) 4 (by decide)
    have hl := fun d q => tp_loudness (d := d) (q := q) ho hr hC hc (show m < 100 by omega)
    have hi1 := fun d q => te_harmIn (d := d) (q := q) ho hr hC f4 f5 hp (show m < 4 by omega) (show tp_hg s mo p m c < 1000 by omega) (f12 m (by omega))
    -- the memory with the clap in its month
    have hM1 : ∀ a b, a ≠ 11 → a ≠ 12 → jx_up (jx_up M 11 c (nI m)) 12 m (nI (tp_hg s mo p m c + tp_lo s c m)) a b = M a b := fun a b z1 z2 => by rw [jx_upE, if_neg (by omega), jx_upE, if_neg (by omega)]
    have hC1 : tp_C (jx_up (jx_up M 11 c (nI m)) 12 m (nI (tp_hg s mo p m c + tp_lo s c m))) o s := tp_C_fr hC (fun a b q1 q2 => hM1 a b (by omega) (by omega))
    have hi2 := fun d q => te_harmIn (d := d) (q := q) (m := m) ho hr hC1 (by rw [hM1 _ _ (by decide) (by decide)]; exact f4) (by rw [hM1 _ _ (by decide) (by decide)]; exact f5) hp (show m < 4 by omega) (show tp_hg s mo p m c + tp_lo s c m < 1000 by omega) (by simp [jx_upE])
    have e12 : jx_up M 11 c (nI m) 12 m = nI (tp_hg s mo p m c) := by rw [jx_upE, if_neg (by omega)]; exact f12 m (by omega)
    have ehc := te_hc_up (mo := mo) (m := m) hc h5 (by omega)
    have hE1 : te_E (jx_up (jx_up M 11 c (nI m)) 12 m (nI (tp_hg s mo p m c + tp_lo s c m))) s o p (c + 1) (te_up mo c m) b := by
      refine ⟨by rw [hM1 _ _ (by decide) (by decide)]; exact f1, by rw [hM1 _ _ (by decide) (by decide)]; exact f4, by rw [hM1 _ _ (by decide) (by decide)]; exact f5, fun m' hm' => ?_, fun j hj h1 h2 => ?_, fun z j h1 h2 => by rw [hM1 _ _ (by decide) (by decide)]; exact f10 z j h1 h2, fb⟩
      · rw [te_hg_up hc h5 m', jx_upE]
        by_cases e : m' = m
        · rw [if_pos ⟨rfl, e⟩, if_pos e, e]
        · rw [if_neg (by omega), if_neg e, Nat.add_zero, jx_upE, if_neg (by omega)]; exact f12 m' hm'
      · rw [jx_upE, if_neg (by omega), jx_upE, te_up]
        by_cases e : j = c
        · rw [if_pos ⟨rfl, e⟩, if_pos e]
        · rw [if_neg (by omega), if_neg e]; exact f11 j (by omega) h1 h2
    obtain ⟨o0, o1, o2, o3, o4, o5, z1, z2, z3, z4, z5⟩ := tp_Ot ho
    obtain ⟨r1, r2, r3, r4, r5, r6⟩ := id hr
    rw [eX0_settleFrom_54]
    simp (disch := first | assumption | omega | decide) only [jx_qI_a, jx_qV_a, jx_qL_a, jn_lt, jn_le, jn_eq, jn_L, jn_A, jn_N, jn_LL, jn_add, jn_mul, jn_sub, jn_cl, jn_vin, jn_shl1, jn_shr, jn_or, jn_l_or0, jn_and1, jo_ltT, jo_ltF, jo_leT, jo_leF, jo_eqT, jo_eqF, true_or, or_true, true_and, and_true, false_or, or_false, false_and, and_false, if_true, if_false, not_true_eq_false, not_false_eq_true, jx_tab, eX0_settleFrom, e4, hl, hi1, e12, hi2]
    rw [← ehc]
    refine H (te_up mo c m) b _ _ hC1 hE1 (fun M2 g1 g2 => ?_)
    obtain ⟨w1, w4, w5, w12, w11, w10, wb⟩ := id g2
    have v12 := w12 m (by omega)
    rw [te_hg_up hc h5 m, if_pos rfl] at v12
    have hag : ∀ a b, a ≠ 9 → a ≠ 10 → a ≠ 11 → a ≠ 12 → jx_up M2 12 m (nI (tp_hg s mo p m c)) a b = M a b := fun a b z1 z2 z3 z4 => by rw [jx_upE, if_neg (by omega), g1 a b z1 z2 z3 z4, hM1 a b z3 z4]
    have ih := te_month ho hr hp hcr hc h5 H (Q := Q) n (m + 1) (te_F s p r (c + 1) (te_up mo c m) b) (jx_up M2 12 m (nI (tp_hg s mo p m c))) (some (.int (nI (tp_lo s c m)))) (some (.int (nI (tp_hg s mo p m c - s 1 p)))) (by omega) (tp_C_fr hC (fun a b q1 q2 => hag a b (by omega) (by omega) (by omega) (by omega))) ⟨by rw [jx_upE, if_neg (by omega)]; exact w1, by rw [jx_upE, if_neg (by omega)]; exact w4, by rw [jx_upE, if_neg (by omega)]; exact w5, fun m' hm' => by
        rw [jx_upE]
        by_cases e : m' = m
        · rw [if_pos ⟨rfl, e⟩, e]
        · have := w12 m' hm'
          rw [te_hg_up hc h5 m', if_neg e, Nat.add_zero] at this
          rw [if_neg (by omega)]; exact this, fun j hj h1 h2 => by
        rw [jx_upE, if_neg (by omega), w11 j (by omega) h1 h2, te_up, if_neg (by omega)], fun z j h1 h2 => by rw [jx_upE, if_neg (by omega)]; exact w10 z j h1 h2, wb⟩ (fun M' e1 e2 => k M' (fun a b z1 z2 z3 z4 => by rw [e1 a b z1 z2 z3 z4, hag a b z1 z2 z3 z4]) (by rw [te_L]; exact e2))
    have esub : tp_hg s mo p m c + tp_lo s c m - tp_lo s c m = tp_hg s mo p m c := by omega
    simp (disch := first | assumption | omega | decide) only [jx_qI_a, jx_qV_a, jx_qL_a, jn_lt, jn_le, jn_eq, jn_L, jn_A, jn_N, jn_LL, jn_add, jn_mul, jn_sub, jn_cl, jn_vin, jn_shl1, jn_shr, jn_or, jn_l_or0, jn_and1, jo_ltT, jo_ltF, jo_leT, jo_leF, jo_eqT, jo_eqF, true_or, or_true, true_and, and_true, false_or, or_false, false_and, and_false, if_true, if_false, not_true_eq_false, not_false_eq_true, jx_tab, eX0_settleFrom, v12, esub, ih]
theorem te_settle (ho : tp_O o) (hr : tp_rg s) {p : Nat} (hp : p < s 0 0) : ∀ r c (mo : Nat → Nat) (b : te_B) (M : jx_M) (qv : jx_M → Prop), c + r = 6 → tp_C M o s → te_E M s o p c mo b → (∀ M' : jx_M, (∀ a b, a ≠ 9 → a ≠ 10 → a ≠ 11 → a ≠ 12 → M' a b = M a b) → te_E M' s o p c mo (te_F s p r c mo b) → qv M') → jx_V (d + r + 4) mX0_settleFrom [.ref 9, .int (nI c), .int (nI (te_hc s mo p c))] M qv
  | 0, c, mo, b, M, qv, h, hC, hE, k => by
    have h : c = 6 := h
    subst h
    have hhc : te_hc s mo p 6 ≤ 432 * 4 := te_hc_le hr (mo := mo) (p := p) (c := 6) (by omega) 4 (by decide)
    obtain ⟨f1, f4, f5, f12, f11, f10, fb⟩ := id hE
    by_cases hz : te_hc s mo p 6 < b.1
    · have eF : te_F s p 0 6 mo b = (te_hc s mo p 6, mo) := by rw [te_F, te_U, if_pos hz]
      rw [eF] at k
      rw [kX0_settleFrom]
      simp (disch := first | assumption | omega | decide) only [jx_qI_a, jx_qV_a, jx_qL_a, jn_lt, jn_le, jn_eq, jn_L, jn_A, jn_N, jn_LL, jn_add, jn_mul, jn_sub, jn_cl, jn_vin, jn_shl1, jn_shr, jn_or, jn_l_or0, jn_and1, jo_ltT, jo_ltF, jo_leT, jo_leF, jo_eqT, jo_eqF, true_or, or_true, true_and, and_true, false_or, or_false, false_and, and_false, if_true, if_false, not_true_eq_false, not_false_eq_true, jx_tab, eX0_settleFrom, f1]
      refine te_keep (fun M' e1 e2 e3 => ?_)
      have r2 := hr.2.1
      have hq := k M' (fun a b z1 z2 z3 z4 => e2 a b z2 (by omega)) ⟨e1, by rw [e2 _ _ (by decide) (by decide)]; exact f4, by rw [e2 _ _ (by decide) (by decide)]; exact f5, fun m hm => by rw [e2 _ _ (by decide) (by omega)]; exact f12 m hm, fun j hj h1 h2 => by rw [e2 _ _ (by decide) (by omega)]; exact f11 j hj h1 h2, fun _ j h1 h2 => by rw [e3 j (by omega)]; exact f11 j (by omega) h1 h2, by show te_hc s mo p 6 ≤ 2147483647; omega⟩
      simp (disch := first | assumption | omega | decide) only [eX0_settleFrom, jx_qV_a, hq]
    · have eF : te_F s p 0 6 mo b = b := te_prune 0 6 mo b rfl (by omega)
      rw [eF] at k
      have hq := k M (fun _ _ _ _ _ _ => rfl) hE
      rw [kX0_settleFrom]
      simp (disch := first | assumption | omega | decide) only [jx_qI_a, jx_qV_a, jx_qL_a, jn_lt, jn_le, jn_eq, jn_L, jn_A, jn_N, jn_LL, jn_add, jn_mul, jn_sub, jn_cl, jn_vin, jn_shl1, jn_shr, jn_or, jn_l_or0, jn_and1, jo_ltT, jo_ltF, jo_leT, jo_leF, jo_eqT, jo_eqF, true_or, or_true, true_and, and_true, false_or, or_false, false_and, and_false, if_true, if_false, not_true_eq_false, not_false_eq_true, jx_tab, eX0_settleFrom, f1, hq]
  | r + 1, c, mo, b, M, qv, h, hC, hE, k => by
    have hhc : te_hc s mo p c ≤ 432 * 4 := te_hc_le hr (mo := mo) (p := p) (c := c) (by omega) 4 (by decide)
    obtain ⟨f1, f4, f5, f12, f11, f10, fb⟩ := id hE
    by_cases hz : te_hc s mo p c < b.1
    · have e4 : jx_rv (M 9 4) = .ref o := by rw [f4]; exact tp_rvn (by rcases ho with rfl | rfl <;> decide)
      have r1 := hr.1
      have r2 := hr.2.1
      by_cases hf : c < s 0 1 ∧ s 5 c = p
      · have hh := fun d q => tp_isFor_y (d := d) (q := q) ho hr hC hf.1 (show p < 100 by omega)
        rw [if_pos hf.2] at hh
        have g := te_month (d := d) (r := r) (c := c) (p := p) (mo := mo) ho hr hp (by omega) hf.1 hf.2 (fun mo' b' M1 qv' hC1 hE1 k1 => te_settle ho hr hp r (c + 1) mo' b' M1 qv' (by omega) hC1 hE1 k1) (Q := jx_qV qv) 4 0 b M none none rfl hC hE (fun M' e1 e2 => by
          rw [jx_qV_a]
          exact k M' e1 (by rw [te_F, if_pos hf]; exact e2))
        obtain ⟨o0, o1, o2, o3, o4, o5, z1, z2, z3, z4, z5⟩ := tp_Ot ho
        rw [kX0_settleFrom]
        simp (disch := first | assumption | omega | decide) only [jx_qI_a, jx_qV_a, jx_qL_a, jn_lt, jn_le, jn_eq, jn_L, jn_A, jn_N, jn_LL, jn_add, jn_mul, jn_sub, jn_cl, jn_vin, jn_shl1, jn_shr, jn_or, jn_l_or0, jn_and1, jo_ltT, jo_ltF, jo_leT, jo_leF, jo_eqT, jo_eqF, true_or, or_true, true_and, and_true, false_or, or_false, false_and, and_false, if_true, if_false, not_true_eq_false, not_false_eq_true, jx_tab, eX0_settleFrom, f1, e4, f5, hh]
        exact g
      · have hh : ∀ d q, jx_I (d + 1) mX1_isFor [.ref o, .int (nI c), .int (nI p)] M q ↔ q 0 M := by
          intro d q
          by_cases hc : c < s 0 1
          · rw [tp_isFor_y ho hr hC hc (show p < 100 by omega), if_neg (fun z => hf ⟨hc, z⟩)]
          · exact tp_isFor_n ho hr hC (Or.inr ((jn_le (by omega) (by omega)).mpr (by omega)))
        have eF : te_F s p (r + 1) c mo b = te_F s p r (c + 1) mo b := by rw [te_F, if_neg hf]
        rw [eF] at k
        have ec : te_hc s mo p (c + 1) = te_hc s mo p c := te_hs_nf hf 4
        obtain ⟨o0, o1, o2, o3, o4, o5, z1, z2, z3, z4, z5⟩ := tp_Ot ho
        rw [kX0_settleFrom]
        simp (disch := first | assumption | omega | decide) only [jx_qI_a, jx_qV_a, jx_qL_a, jn_lt, jn_le, jn_eq, jn_L, jn_A, jn_N, jn_LL, jn_add, jn_mul, jn_sub, jn_cl, jn_vin, jn_shl1, jn_shr, jn_or, jn_l_or0, jn_and1, jo_ltT, jo_ltF, jo_leT, jo_leF, jo_eqT, jo_eqF, true_or, or_true, true_and, and_true, false_or, or_false, false_and, and_false, if_true, if_false, not_true_eq_false, not_false_eq_true, jx_tab, eX0_settleFrom, f1, e4, f5, hh]
        rw [← ec]
        show jx_V (d + r + 4) _ _ _ _
        refine te_settle ho hr hp r (c + 1) mo b M _ (by omega) hC ⟨f1, f4, f5, fun m hm => by rw [te_hg_nf hf]; exact f12 m hm, fun j hj h1 h2 => by
            by_cases e : j = c
            · subst e; exact absurd ⟨h1, h2⟩ hf
            · exact f11 j (by omega) h1 h2, f10, fb⟩ (fun M' e1 e2 => ?_)
        obtain ⟨w1, w4, w5, w12, w11, w10, wb⟩ := id e2
        have hq := k M' e1 ⟨w1, w4, w5, fun m hm => by rw [← te_hg_nf hf]; exact w12 m hm, fun j hj h1 h2 => w11 j (by omega) h1 h2, w10, wb⟩
        simp (disch := first | assumption | omega | decide) only [eX0_settleFrom, jx_qV_a, hq]
    · have eF : te_F s p (r + 1) c mo b = b := te_prune (r + 1) c mo b h (by omega)
      rw [eF] at k
      have hq := k M (fun _ _ _ _ _ _ => rfl) hE
      rw [kX0_settleFrom]
      simp (disch := first | assumption | omega | decide) only [jx_qI_a, jx_qV_a, jx_qL_a, jn_lt, jn_le, jn_eq, jn_L, jn_A, jn_N, jn_LL, jn_add, jn_mul, jn_sub, jn_cl, jn_vin, jn_shl1, jn_shr, jn_or, jn_l_or0, jn_and1, jo_ltT, jo_ltF, jo_leT, jo_leF, jo_eqT, jo_eqF, true_or, or_true, true_and, and_true, false_or, or_false, false_and, and_false, if_true, if_false, not_true_eq_false, not_false_eq_true, jx_tab, eX0_settleFrom, f1, hq]
end TE
