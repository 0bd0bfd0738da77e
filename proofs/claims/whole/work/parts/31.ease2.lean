/-! ease: all rows by number; the same as the search -/
def te_eq (s : tp_S) (p : Nat) (mo mo' : Nat → Nat) : Prop := ∀ j, j < s 0 1 → s 5 j = p → mo j = mo' j
def te_bq (s : tp_S) (p : Nat) (b b' : te_B) : Prop := b.1 = b'.1 ∧ te_eq s p b.2 b'.2
theorem te_bq.trans {s : tp_S} {p : Nat} {a b c : te_B} (h : te_bq s p a b) (h2 : te_bq s p b c) : te_bq s p a c := ⟨h.1.trans h2.1, fun j h3 h4 => (h.2 j h3 h4).trans (h2.2 j h3 h4)⟩
theorem te_bq.rfl' {s : tp_S} {p : Nat} {a : te_B} : te_bq s p a a := ⟨rfl, fun _ _ _ => rfl⟩
theorem te_U_cong {s : tp_S} {p : Nat} {b b' : te_B} {mo mo' : Nat → Nat} (hb : te_bq s p b b') (hm : te_eq s p mo mo') : te_bq s p (te_U s p b mo) (te_U s p b' mo') := by
  have e : te_hc s mo p 6 = te_hc s mo' p 6 := te_hs_cong (fun j _ h1 h2 => hm j h1 h2) 4
  unfold te_U
  rw [e, hb.1]
  split
  · exact ⟨rfl, hm⟩
  · exact hb
def te_G (s : tp_S) (p : Nat) (A : Nat → Nat → Nat) : Nat → Nat → te_B → te_B
  | _, 0, b => b
  | lo, n + 1, b => te_G s p A (lo + 1) n (te_U s p b (A lo))
theorem te_G_cong {s : tp_S} {p : Nat} {A A' : Nat → Nat → Nat} : ∀ n lo lo' b b', (∀ i, i < n → te_eq s p (A (lo + i)) (A' (lo' + i))) → te_bq s p b b' → te_bq s p (te_G s p A lo n b) (te_G s p A' lo' n b')
  | 0, _, _, _, _, _, hb => hb
  | n + 1, lo, lo', b, b', h, hb => by
    rw [te_G, te_G]
    exact te_G_cong n (lo + 1) (lo' + 1) _ _ (fun i hi => by
      have := h (i + 1) (by omega)
      rw [show lo + 1 + i = lo + (i + 1) by omega, show lo' + 1 + i = lo' + (i + 1) by omega]
      exact this) (te_U_cong hb (h 0 (by omega)))
theorem te_G_split {s : tp_S} {p : Nat} {A : Nat → Nat → Nat} : ∀ n m lo b, te_G s p A lo (n + m) b = te_G s p A (lo + n) m (te_G s p A lo n b)
  | 0, m, lo, b => by rw [Nat.zero_add]; rfl
  | n + 1, m, lo, b => by
    rw [show n + 1 + m = (n + m) + 1 by omega, te_G, te_G, te_G_split n m (lo + 1)]
    rw [show lo + 1 + n = lo + (n + 1) by omega]
/-- p's claps from c on, of r -/
def te_n (s : tp_S) (p : Nat) : Nat → Nat → Nat
  | _, 0 => 0
  | c, r + 1 => (if c < s 0 1 ∧ s 5 c = p then 1 else 0) + te_n s p (c + 1) r
def te_a (s : tp_S) (p num c : Nat) : Nat := num / 4 ^ te_n s p (c + 1) (5 - c) % 4
def te_x (mo : Nat → Nat) (c : Nat) (f : Nat → Nat) : Nat → Nat := fun j => if j < c then mo j else f j
theorem te_n_ge (s : tp_S) (p : Nat) : ∀ k c r, c + r = 6 → k ≤ r → te_n s p (c + k) (r - k) ≤ te_n s p c r
  | 0, c, r, h, hk => Nat.le_refl _
  | k + 1, c, r, h, hk => by
    obtain ⟨r', rfl⟩ : ∃ r', r = r' + 1 := ⟨r - 1, by omega⟩
    have := te_n_ge s p k (c + 1) r' (by omega) (by omega)
    rw [show c + (k + 1) = c + 1 + k by omega, show r' + 1 - (k + 1) = r' - k by omega, te_n]
    omega
theorem te_digit {s : tp_S} {p m i c r j : Nat} (hcr : c + (r + 1) = 6) (hj : c < j) (hj6 : j < 6) (hjc : j < s 0 1) (h5 : s 5 j = p) : te_a s p (m * 4 ^ te_n s p (c + 1) r + i) j = te_a s p i j := by
  unfold te_a
  have hge := te_n_ge s p (j - (c + 1)) (c + 1) r (by omega) (by omega)
  rw [show c + 1 + (j - (c + 1)) = j by omega, show r - (j - (c + 1)) = (5 - j) + 1 by omega, te_n, if_pos ⟨hjc, h5⟩] at hge
  obtain ⟨t, ht⟩ : ∃ t, te_n s p (c + 1) r = te_n s p (j + 1) (5 - j) + 1 + t := ⟨te_n s p (c + 1) r - (te_n s p (j + 1) (5 - j) + 1), by omega⟩
  rw [ht]
  generalize te_n s p (j + 1) (5 - j) = a
  have e : m * 4 ^ (a + 1 + t) + i = 4 ^ a * (4 * (m * 4 ^ t)) + i := by
    rw [Nat.pow_add, Nat.pow_add, Nat.pow_one]
    have : m * (4 ^ a * 4 * 4 ^ t) = 4 ^ a * (4 * (m * 4 ^ t)) := by
      rw [Nat.mul_assoc (4 ^ a), Nat.mul_left_comm m, Nat.mul_left_comm m]
    rw [this]
  rw [e, Nat.mul_add_div (Nat.pow_pos (by decide))]
  omega
theorem te_FG {s : tp_S} (hC : s 0 1 ≤ 6) {p : Nat} : ∀ r c mo b, c + r = 6 → te_bq s p (te_F s p r c mo b) (te_G s p (fun num => te_x mo c (te_a s p num)) 0 (4 ^ te_n s p c r) b)
  | 0, c, mo, b, h => by
    have h : c = 6 := h
    subst h
    rw [te_F, te_n, Nat.pow_zero]
    show te_bq s p _ (te_U s p b (te_x mo 6 (te_a s p 0)))
    exact te_U_cong te_bq.rfl' (fun j h1 _ => by rw [te_x, if_pos (by omega)])
  | r + 1, c, mo, b, h => by
    rw [te_F]
    by_cases hf : c < s 0 1 ∧ s 5 c = p
    · rw [if_pos hf, te_n, if_pos hf]
      have key : ∀ m b b', m < 4 → te_bq s p b b' → te_bq s p (te_F s p r (c + 1) (te_up mo c m) b) (te_G s p (fun num => te_x mo c (te_a s p num)) (m * 4 ^ te_n s p (c + 1) r) (4 ^ te_n s p (c + 1) r) b') := by
        intro m b b' hm hb
        refine (te_FG hC r (c + 1) (te_up mo c m) b (by omega)).trans (te_G_cong _ _ _ _ _ (fun i hi j h1 h2 => ?_) hb)
        show te_x (te_up mo c m) (c + 1) (te_a s p (0 + i)) j = te_x mo c (te_a s p (m * 4 ^ te_n s p (c + 1) r + i)) j
        rw [Nat.zero_add]
        unfold te_x te_up
        by_cases e1 : j < c
        · rw [if_pos (by omega), if_pos e1, if_neg (by omega)]
        · by_cases e2 : j = c
          · subst e2
            rw [if_pos (by omega), if_neg e1, if_pos rfl]
            unfold te_a
            rw [show 5 - j = r by omega, Nat.mul_comm, Nat.mul_add_div (Nat.pow_pos (by decide)), Nat.div_eq_of_lt hi]
            omega
          · rw [if_neg (by omega), if_neg e1, te_digit h (by omega) (by omega) h1 h2]
      have e4 : 4 ^ (1 + te_n s p (c + 1) r) = 4 ^ te_n s p (c + 1) r + (4 ^ te_n s p (c + 1) r + (4 ^ te_n s p (c + 1) r + (4 ^ te_n s p (c + 1) r + 0))) := by
        rw [Nat.pow_add, Nat.pow_one]; omega
      rw [e4, te_G_split, te_G_split, te_G_split, te_G_split]
      have k0 := key 0 b b (by decide) te_bq.rfl'
      rw [Nat.zero_mul] at k0
      have k1 := key 1 _ _ (by decide) k0
      have k2 := key 2 _ _ (by decide) k1
      have k3 := key 3 _ _ (by decide) k2
      rw [show 1 * 4 ^ te_n s p (c + 1) r = 0 + 4 ^ te_n s p (c + 1) r by omega] at k1 k2 k3
      rw [show 2 * 4 ^ te_n s p (c + 1) r = 0 + 4 ^ te_n s p (c + 1) r + 4 ^ te_n s p (c + 1) r by omega] at k2 k3
      rw [show 3 * 4 ^ te_n s p (c + 1) r = 0 + 4 ^ te_n s p (c + 1) r + 4 ^ te_n s p (c + 1) r + 4 ^ te_n s p (c + 1) r by omega] at k3
      exact k3
    · rw [if_neg hf, te_n, if_neg hf, Nat.zero_add]
      refine (te_FG hC r (c + 1) mo b (by omega)).trans (te_G_cong _ _ _ _ _ (fun i hi j h1 h2 => ?_) te_bq.rfl')
      show te_x mo (c + 1) (te_a s p (0 + i)) j = te_x mo c (te_a s p (0 + i)) j
      unfold te_x
      by_cases e1 : j < c
      · rw [if_pos (by omega), if_pos e1]
      · by_cases e2 : j = c
        · subst e2; exact absurd ⟨h1, h2⟩ hf
        · rw [if_neg (by omega), if_neg e1]
theorem te_U_le (s : tp_S) (p : Nat) (b : te_B) (mo : Nat → Nat) : (te_U s p b mo).1 ≤ b.1 ∧ (te_U s p b mo).1 ≤ te_hc s mo p 6 := by
  unfold te_U
  by_cases h : te_hc s mo p 6 < b.1
  · rw [if_pos h]
    exact ⟨Nat.le_of_lt h, Nat.le_refl _⟩
  · rw [if_neg h]
    exact ⟨Nat.le_refl _, Nat.le_of_not_lt h⟩
theorem te_G_le {s : tp_S} {p : Nat} {A : Nat → Nat → Nat} : ∀ n lo b, (te_G s p A lo n b).1 ≤ b.1
  | 0, _, _ => Nat.le_refl _
  | n + 1, lo, b => by
    rw [te_G]
    exact Nat.le_trans (te_G_le n (lo + 1) _) (te_U_le s p b (A lo)).1
theorem te_G_lt {s : tp_S} (hr : tp_rg s) {p : Nat} {A : Nat → Nat → Nat} {n lo : Nat} {b : te_B} (hn : 0 < n) : (te_G s p A lo n b).1 ≤ 1728 := by
  obtain ⟨n', rfl⟩ : ∃ n', n = n' + 1 := ⟨n - 1, by omega⟩
  rw [te_G]
  exact Nat.le_trans (te_G_le n' (lo + 1) _) (Nat.le_trans (te_U_le s p b (A lo)).2 (te_hc_le hr (c := 6) (by decide) 4 (by decide)))
/-- how many rows -/
def te_rw (s : tp_S) (p : Nat) : Nat → Nat
  | 0 => 1
  | c + 1 => te_rw s p c * (if c < s 0 1 ∧ s 5 c = p then 4 else 1)
theorem te_rw_n (s : tp_S) (p : Nat) : ∀ c r, c + r = 6 → te_rw s p c * 4 ^ te_n s p c r = 4 ^ te_n s p 0 6
  | 0, r, h => by
    have h : r = 6 := by omega
    subst h
    rw [te_rw, Nat.one_mul]
  | c + 1, r, h => by
    have := te_rw_n s p c (r + 1) (by omega)
    rw [← this, te_rw, te_n, Nat.mul_assoc]
    congr 1
    by_cases hf : c < s 0 1 ∧ s 5 c = p
    · rw [if_pos hf, if_pos hf, Nat.pow_add, Nat.pow_one]
    · rw [if_neg hf, if_neg hf, Nat.zero_add, Nat.one_mul]
theorem te_rw_top (s : tp_S) (p : Nat) : ∀ n, s 0 1 ≤ n → te_rw s p n = te_rw s p (s 0 1)
  | 0, h => by rw [show s 0 1 = 0 by omega]
  | n + 1, h => by
    by_cases e : s 0 1 = n + 1
    · rw [e]
    · rw [te_rw, if_neg (by omega), Nat.mul_one]
      exact te_rw_top s p n (by omega)
theorem te_rw_all {s : tp_S} (hC : s 0 1 ≤ 6) (p : Nat) : te_rw s p (s 0 1) = 4 ^ te_n s p 0 6 := by
  have := te_rw_n s p 6 0 rfl
  rw [te_n, Nat.pow_zero, Nat.mul_one, te_rw_top s p 6 hC] at this
  exact this
theorem te_rw_le (s : tp_S) (p : Nat) : ∀ c, c ≤ 6 → te_rw s p c ≤ 4 ^ c
  | 0, _ => Nat.le_refl _
  | c + 1, h => by
    have := te_rw_le s p c (by omega)
    rw [te_rw, Nat.pow_succ]
    split
    · exact Nat.mul_le_mul this (Nat.le_refl _)
    · exact Nat.mul_le_mul this (by decide)
theorem te_cf_bit (s : tp_S) (p x : Nat) : ∀ n, tp_cf s p n / 2 ^ x % 2 = 1 ↔ x < n ∧ x < s 0 1 ∧ s 5 x = p
  | 0 => by
    rw [tp_cf, Nat.zero_div]
    constructor
    · intro z; exact absurd z (by decide)
    · rintro ⟨z, -⟩; omega
  | n + 1 => by
    have ih := te_cf_bit s p x n
    rw [tp_cf]
    by_cases hf : n < s 0 1 ∧ s 5 n = p
    · rw [if_pos hf, tp_b_iff, fb_bit_set, Bool.or_eq_true, decide_eq_true_eq, ← tp_b_iff, ih]
      constructor
      · rintro (⟨z1, z2⟩ | z)
        · exact ⟨by omega, z2⟩
        · subst z; exact ⟨by omega, hf⟩
      · rintro ⟨z1, z2⟩
        by_cases e : x = n
        · exact Or.inr e
        · exact Or.inl ⟨by omega, z2⟩
    · rw [if_neg hf, Nat.or_zero, ih]
      constructor
      · rintro ⟨z1, z2⟩; exact ⟨by omega, z2⟩
      · rintro ⟨z1, z2⟩
        by_cases e : x = n
        · subst e; exact absurd z2 hf
        · exact ⟨by omega, z2⟩
