/-! office: the whole text, as the class reads it -/
def tf_s0 (x y : Nat) : tp_S := fun i j => if i = 0 ∧ j = 2 then x else if i = 0 ∧ j = 3 then y else 0
def tf_b2 (n : Nat) (r : Option tp_S × Nat) : Option tp_S × Nat := match r with
  | (none, a) => (none, a)
  | (some s, a) => if 0 < s 0 1 ∧ a = n then (some s, a) else (none, a)
def tf_b1 (v : Nat → Int32) (n : Nat) (r : Option tp_S × Nat) : Option tp_S × Nat := match r with
  | (none, a) => (none, a)
  | (some s, a) => if 0 < s 0 0 then tf_b2 n (tf_cl v n 6 0 a s) else (none, a)
def tf_all (v : Nat → Int32) (n : Nat) : Option tp_S × Nat := if tf_K v n 0 = 116 then (match tf_dg v n 1 0 3 with
    | none => (none, 1)
    | some x => match tf_dg v n 2 0 9 with
      | none => (none, 2)
      | some y => tf_b1 v n (tf_pe v n 5 0 3 (tf_s0 x y))) else (none, 0)
theorem tf_pe_rg {v : Nat → Int32} {n : Nat} : ∀ r p a s s' a', p + r = 5 → s 0 0 = p → s 0 1 = 0 → tp_rg s → tf_pe v n r p a s = (some s', a') → tp_rg s' ∧ s' 0 1 = 0
  | 0, p, a, s, s', a', h, hs, h1, hr, e => by
    rw [tf_pe] at e
    cases e
    exact ⟨hr, h1⟩
  | r + 1, p, a, s, s', a', h, hs, h1, hr, e => by
    rw [tf_pe] at e
    by_cases hk : tf_K v n a = 44
    · rw [if_pos hk] at e
      rcases hd : tf_dg v n (a + 1) 0 9 with _ | x
      · rw [hd] at e; cases e
      · rw [hd] at e
        rcases hd2 : tf_dg v n (a + 2) 0 5 with _ | y
        · rw [hd2] at e; cases e
        · rw [hd2] at e
          obtain ⟨-, -, hx, -⟩ := tf_dg_y (by decide) (by decide) hd
          obtain ⟨-, -, hy, -⟩ := tf_dg_y (by decide) (by decide) hd2
          obtain ⟨r1, r2, r3, r4, r5, r6⟩ := hr
          refine tf_pe_rg r (p + 1) (a + 3) (tf_s2 s p x y) s' a' (by omega) (by simp [tf_s2]) (by simp [tf_s2, h1]) ⟨?_, ?_, ?_, ?_, fun p' hp' => ?_, fun c hc => ?_⟩ e
          · simp [tf_s2]; omega
          · simp [tf_s2, h1]
          · simpa [tf_s2] using r3
          · simpa [tf_s2] using r4
          · have hp2 : p' < p + 1 := by simpa [tf_s2] using hp'
            by_cases e : p' = p
            · subst e
              constructor
              · simpa [tf_s2] using hx
              · simpa [tf_s2] using hy
            · obtain ⟨f1, f2⟩ := r5 p' (by omega)
              constructor
              · simpa [tf_s2, e] using f1
              · simpa [tf_s2, e] using f2
          · have : c < s 0 1 := by simpa [tf_s2] using hc
            omega
    · rw [if_neg hk] at e
      cases e
      exact ⟨hr, h1⟩
theorem tf_cl_rg {v : Nat → Int32} {n : Nat} : ∀ r c a s s' a', c + r = 6 → s 0 1 = c → 0 < s 0 0 → tp_rg s → tf_cl v n r c a s = (some s', a') → tp_rg s'
  | 0, c, a, s, s', a', h, hs, h1, hr, e => by
    rw [tf_cl] at e
    cases e
    exact hr
  | r + 1, c, a, s, s', a', h, hs, h1, hr, e => by
    rw [tf_cl] at e
    by_cases hk : tf_K v n a = 59
    · rw [if_pos hk] at e
      rcases hd : tf_kd (tf_K v n (a + 1)) with _ | k
      · rw [hd] at e; cases e
      · rw [hd] at e
        rcases hd2 : tf_dg v n (a + 2) 1 9 with _ | z
        · rw [hd2] at e; cases e
        · rw [hd2] at e
          rcases hd3 : tf_dg v n (a + 3) 0 (s 0 0 - 1) with _ | x
          · rw [hd3] at e; cases e
          · rw [hd3] at e
            obtain ⟨r1, r2, r3, r4, r5, r6⟩ := hr
            have hkk := tf_kd_le hd
            obtain ⟨-, hz1, hz, -⟩ := tf_dg_y (by decide) (by decide) hd2
            obtain ⟨-, -, hx, -⟩ := tf_dg_y (by decide) (by omega) hd3
            refine tf_cl_rg r (c + 1) (a + 4) (tf_s3 s c k z x) s' a' (by omega) (by simp [tf_s3]) (by simpa [tf_s3] using h1) ⟨?_, ?_, ?_, ?_, fun p' hp' => ?_, fun c' hc' => ?_⟩ e
            · simpa [tf_s3] using r1
            · simp [tf_s3]; omega
            · simpa [tf_s3] using r3
            · simpa [tf_s3] using r4
            · simpa [tf_s3] using r5 p' (by simpa [tf_s3] using hp')
            · have hc2 : c' < c + 1 := by simpa [tf_s3] using hc'
              by_cases e : c' = c
              · subst e
                refine ⟨?_, ?_, ?_, ?_⟩
                · simpa [tf_s3] using hkk
                · simpa [tf_s3] using hz1
                · simpa [tf_s3] using hz
                · simp [tf_s3]; omega
              · obtain ⟨f1, f2, f3, f4⟩ := r6 c' (by omega)
                refine ⟨?_, ?_, ?_, ?_⟩
                · simpa [tf_s3, e] using f1
                · simpa [tf_s3, e] using f2
                · simpa [tf_s3, e] using f3
                · simpa [tf_s3, e] using f4
    · rw [if_neg hk] at e
      cases e
      exact hr
theorem tf_s0_rg {x y : Nat} (hx : x ≤ 3) (hy : y ≤ 9) : tp_rg (tf_s0 x y) := by
  refine ⟨?_, ?_, ?_, ?_, fun p' hp' => ?_, fun c hc => ?_⟩
  · simp [tf_s0]
  · simp [tf_s0]
  · simpa [tf_s0] using hx
  · simpa [tf_s0] using hy
  · simp [tf_s0] at hp'
  · simp [tf_s0] at hc
theorem tf_pe_le {v : Nat → Int32} {n : Nat} : ∀ r p a s, (tf_pe v n r p a s).2 ≤ a + 3 * r
  | 0, p, a, s => by rw [tf_pe]; exact Nat.le_refl _
  | r + 1, p, a, s => by
    rw [tf_pe]
    by_cases hk : tf_K v n a = 44
    · rw [if_pos hk]
      rcases hd : tf_dg v n (a + 1) 0 9 with _ | x
      · show a + 1 ≤ _; omega
      · rcases hd2 : tf_dg v n (a + 2) 0 5 with _ | y
        · show a + 2 ≤ _; omega
        · have := tf_pe_le (v := v) (n := n) r (p + 1) (a + 3) (tf_s2 s p x y)
          show (tf_pe v n r (p + 1) (a + 3) (tf_s2 s p x y)).2 ≤ _
          omega
    · rw [if_neg hk]; show a ≤ _; omega
theorem tf_cl_le {v : Nat → Int32} {n : Nat} : ∀ r c a s, (tf_cl v n r c a s).2 ≤ a + 4 * r
  | 0, c, a, s => by rw [tf_cl]; exact Nat.le_refl _
  | r + 1, c, a, s => by
    rw [tf_cl]
    by_cases hk : tf_K v n a = 59
    · rw [if_pos hk]
      rcases hd : tf_kd (tf_K v n (a + 1)) with _ | k
      · show a + 1 ≤ _; omega
      · rcases hd2 : tf_dg v n (a + 2) 1 9 with _ | z
        · show a + 2 ≤ _; omega
        · rcases hd3 : tf_dg v n (a + 3) 0 (s 0 0 - 1) with _ | x
          · simp only [hd3]; omega
          · have := tf_cl_le (v := v) (n := n) r (c + 1) (a + 4) (tf_s3 s c k z x)
            simp only [hd3]
            omega
    · rw [if_neg hk]; show a ≤ _; omega
theorem tf_all_rg {v : Nat → Int32} {n : Nat} {s : tp_S} {a : Nat} (h : tf_all v n = (some s, a)) : tp_rg s := by
  unfold tf_all at h
  by_cases hk : tf_K v n 0 = 116
  · rw [if_pos hk] at h
    rcases hd : tf_dg v n 1 0 3 with _ | x
    · rw [hd] at h; cases h
    · rw [hd] at h
      rcases hd2 : tf_dg v n 2 0 9 with _ | y
      · rw [hd2] at h; cases h
      · rw [hd2] at h
        obtain ⟨-, -, hx, -⟩ := tf_dg_y (by decide) (by decide) hd
        obtain ⟨-, -, hy, -⟩ := tf_dg_y (by decide) (by decide) hd2
        have h : tf_b1 v n (tf_pe v n 5 0 3 (tf_s0 x y)) = (some s, a) := h
        rcases hp : tf_pe v n 5 0 3 (tf_s0 x y) with ⟨_ | s1, a1⟩
        · rw [hp, tf_b1] at h; cases h
        · rw [hp, tf_b1] at h
          obtain ⟨g1, g2⟩ := tf_pe_rg 5 0 3 _ s1 a1 rfl (by simp [tf_s0]) (by simp [tf_s0]) (tf_s0_rg hx hy) hp
          by_cases h0 : 0 < s1 0 0
          · rw [if_pos h0] at h
            rcases hq : tf_cl v n 6 0 a1 s1 with ⟨_ | s2, a2⟩
            · rw [hq, tf_b2] at h; cases h
            · rw [hq, tf_b2] at h
              have g3 := tf_cl_rg 6 0 a1 s1 s2 a2 rfl g2 h0 g1 hq
              by_cases h2 : 0 < s2 0 1 ∧ a2 = n
              · rw [if_pos h2] at h
                cases h
                exact g3
              · rw [if_neg h2] at h; cases h
          · rw [if_neg h0] at h; cases h
  · rw [if_neg hk] at h; cases h
