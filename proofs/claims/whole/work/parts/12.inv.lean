/-! what holds between calls: class and reference tell the same -/
theorem tp_rvn {o : Nat} (h : o < 56) : jx_rv (nI o) = .ref o := by
  rw [jx_rv, if_neg (nI_pos (by omega)), nI_clamp (by omega)]
/-- the readings -/
def tp_rd (M : jx_M) (s : tp_S) : Prop := ∃ n, n ≤ 8 ∧ M 3 3 = nI n ∧ M 36 27 = nI n ∧ ∀ k, k < n → ∃ c m v, c < s 0 1 ∧ m ≤ 9 ∧ v ≤ 99 ∧ M 4 k = nI c ∧ M 53 k = nI c ∧ M 5 k = nI m ∧ M 54 k = nI m ∧ M 6 k = nI v ∧ M 55 k = nI v
/-- a sheet -/
def tp_s1 (M : jx_M) (k lane len : Nat) : Prop := lane ≤ 2 ∧ len ≤ 60 ∧ M (28 + 2 * k) 1 = nI lane ∧ M (28 + 2 * k) 2 = nI len ∧ M 38 k = nI len ∧ (M (28 + 2 * k) 3 = 0 ∧ M 37 k = -9 ∨ M (28 + 2 * k) 3 = 1 ∧ M 37 k = nI lane) ∧ ∀ j, j < 60 → M 39 (60 * k + j) = M (28 + 2 * k + 1) j
def tp_sh (M : jx_M) : Prop := ∀ k, k < 4 → ∃ lane len, tp_s1 M k lane len
def tp_J (M : jx_M) (s : tp_S) (o : Nat) : Prop := tp_O o ∧ M 0 6 = nI o ∧ M 0 7 = nI (38 - o) ∧ tp_rg s ∧ tp_C M o s ∧ tp_D M s ∧ M 36 0 = M 0 9 ∧ M 36 1 = M 0 8 ∧ tp_rd M s ∧ tp_sh M
def tp_I (M : jx_M) : Prop := ∃ s o, tp_J M s o
section TPI
variable {M M' : jx_M} {s : tp_S} {o : Nat}
theorem tp_C_fr (h : tp_C M o s) (e : ∀ a b, o ≤ a → a ≤ o + 5 → M' a b = M a b) : tp_C M' o s := by
  obtain ⟨c1, c2, c3, c4, c5, c6⟩ := h
  refine ⟨?_, ?_, ?_, ?_, fun p hp => ⟨?_, ?_⟩, fun c hc => ⟨?_, ?_, ?_⟩⟩
  · rw [e _ _ (by omega) (by omega)]; exact c1
  · rw [e _ _ (by omega) (by omega)]; exact c2
  · rw [e _ _ (by omega) (by omega)]; exact c3
  · rw [e _ _ (by omega) (by omega)]; exact c4
  · rw [e _ _ (by omega) (by omega)]; exact (c5 p hp).1
  · rw [e _ _ (by omega) (by omega)]; exact (c5 p hp).2
  · rw [e _ _ (by omega) (by omega)]; exact (c6 c hc).1
  · rw [e _ _ (by omega) (by omega)]; exact (c6 c hc).2.1
  · rw [e _ _ (by omega) (by omega)]; exact (c6 c hc).2.2
theorem tp_D_fr (h : tp_D M s) (e1 : ∀ b, 5 ≤ b → b ≤ 8 → M' 36 b = M 36 b) (e : ∀ a b, 40 ≤ a → a ≤ 44 → M' a b = M a b) : tp_D M' s := by
  obtain ⟨c1, c2, c3, c4, c5, c6⟩ := h
  refine ⟨?_, ?_, ?_, ?_, fun p hp => ⟨?_, ?_⟩, fun c hc => ⟨?_, ?_, ?_⟩⟩
  · rw [e1 _ (by omega) (by omega)]; exact c1
  · rw [e1 _ (by omega) (by omega)]; exact c2
  · rw [e1 _ (by omega) (by omega)]; exact c3
  · rw [e1 _ (by omega) (by omega)]; exact c4
  · rw [e _ _ (by omega) (by omega)]; exact (c5 p hp).1
  · rw [e _ _ (by omega) (by omega)]; exact (c5 p hp).2
  · rw [e _ _ (by omega) (by omega)]; exact (c6 c hc).1
  · rw [e _ _ (by omega) (by omega)]; exact (c6 c hc).2.1
  · rw [e _ _ (by omega) (by omega)]; exact (c6 c hc).2.2
theorem tp_rd_fr (h : tp_rd M s) (e : ∀ a b, 3 ≤ a → a ≤ 6 → M' a b = M a b) (e1 : M' 36 27 = M 36 27) (e2 : ∀ a b, 53 ≤ a → a ≤ 55 → M' a b = M a b) : tp_rd M' s := by
  obtain ⟨n, h1, h2, h3, h4⟩ := h
  refine ⟨n, h1, ?_, ?_, fun k hk => ?_⟩
  · rw [e _ _ (by omega) (by omega)]; exact h2
  · rw [e1]; exact h3
  · obtain ⟨c, m, v, g1, g2, g3, g4, g5, g6, g7, g8, g9⟩ := h4 k hk
    refine ⟨c, m, v, g1, g2, g3, ?_, ?_, ?_, ?_, ?_, ?_⟩
    · rw [e _ _ (by omega) (by omega)]; exact g4
    · rw [e2 _ _ (by omega) (by omega)]; exact g5
    · rw [e _ _ (by omega) (by omega)]; exact g6
    · rw [e2 _ _ (by omega) (by omega)]; exact g7
    · rw [e _ _ (by omega) (by omega)]; exact g8
    · rw [e2 _ _ (by omega) (by omega)]; exact g9
theorem tp_s1_fr {k lane len : Nat} (hk : k < 4) (h : tp_s1 M k lane len) (e : ∀ a b, 28 ≤ a → a ≤ 39 → a ≠ 36 → M' a b = M a b) : tp_s1 M' k lane len := by
  obtain ⟨h1, h2, h3, h4, h5, h6, h7⟩ := h
  refine ⟨h1, h2, ?_, ?_, ?_, ?_, fun j hj => ?_⟩
  · rw [e _ _ (by omega) (by omega) (by omega)]; exact h3
  · rw [e _ _ (by omega) (by omega) (by omega)]; exact h4
  · rw [e _ _ (by omega) (by omega) (by omega)]; exact h5
  · rw [e _ _ (by omega) (by omega) (by omega), e _ _ (by omega) (by omega) (by omega)]; exact h6
  · rw [e _ _ (by omega) (by omega) (by omega), e _ _ (by omega) (by omega) (by omega)]; exact h7 j hj
theorem tp_sh_fr (h : tp_sh M) (e : ∀ a b, 28 ≤ a → a ≤ 39 → a ≠ 36 → M' a b = M a b) : tp_sh M' := by
  intro k hk
  obtain ⟨lane, len, h1⟩ := h k hk
  exact ⟨lane, len, tp_s1_fr hk h1 e⟩
/-- the cells that the relation speaks of -/
def tp_cell (o a b : Nat) : Prop := (a = 0 ∧ 6 ≤ b ∧ b ≤ 9) ∨ (o ≤ a ∧ a ≤ o + 5) ∨ (a = 36 ∧ (b ≤ 8 ∨ b = 27)) ∨ (40 ≤ a ∧ a ≤ 44) ∨ (3 ≤ a ∧ a ≤ 6) ∨ (53 ≤ a ∧ a ≤ 55) ∨ (28 ≤ a ∧ a ≤ 39 ∧ a ≠ 36)
theorem tp_J_fr (h : tp_J M s o) (e : ∀ a b, tp_cell o a b → M' a b = M a b) : tp_J M' s o := by
  obtain ⟨h1, h2, h3, h4, h5, h6, h7, h8, h9, h10⟩ := h
  have e' : ∀ a b, ((a = 0 ∧ 6 ≤ b ∧ b ≤ 9) ∨ (o ≤ a ∧ a ≤ o + 5) ∨ (a = 36 ∧ (b ≤ 8 ∨ b = 27)) ∨ (40 ≤ a ∧ a ≤ 44) ∨ (3 ≤ a ∧ a ≤ 6) ∨ (53 ≤ a ∧ a ≤ 55) ∨ (28 ≤ a ∧ a ≤ 39 ∧ a ≠ 36)) → M' a b = M a b := e
  refine ⟨h1, ?_, ?_, h4, tp_C_fr h5 (fun a b q1 q2 => e' a b (by omega)), tp_D_fr h6 (fun b q1 q2 => e' 36 b (by omega)) (fun a b q1 q2 => e' a b (by omega)), ?_, ?_, tp_rd_fr h9 (fun a b q1 q2 => e' a b (by omega)) (e' 36 27 (by omega)) (fun a b q1 q2 => e' a b (by omega)), tp_sh_fr h10 (fun a b q1 q2 q3 => e' a b (by omega))⟩
  · rw [e' 0 6 (by omega)]; exact h2
  · rw [e' 0 7 (by omega)]; exact h3
  · rw [e' 36 0 (by omega), e' 0 9 (by omega)]; exact h7
  · rw [e' 36 1 (by omega), e' 0 8 (by omega)]; exact h8
/-- the faults of both become k -/
theorem tp_J_f (k : Int32) (h : tp_J M s o) (e0 : M' 0 9 = k) (e1 : M' 36 0 = k) (e : ∀ a b, ¬ (a = 0 ∧ b = 9) → ¬ (a = 36 ∧ b = 0) → M' a b = M a b) : tp_J M' s o := by
  obtain ⟨h1, h2, h3, h4, h5, h6, h7, h8, h9, h10⟩ := h
  have ho : o = 16 ∨ o = 22 := h1
  refine ⟨h1, ?_, ?_, h4, tp_C_fr h5 (fun a b q1 q2 => e a b (by omega) (by omega)), tp_D_fr h6 (fun b q1 q2 => e 36 b (by omega) (by omega)) (fun a b q1 q2 => e a b (by omega) (by omega)), ?_, ?_, tp_rd_fr h9 (fun a b q1 q2 => e a b (by omega) (by omega)) (e 36 27 (by omega) (by omega)) (fun a b q1 q2 => e a b (by omega) (by omega)), tp_sh_fr h10 (fun a b q1 q2 q3 => e a b (by omega) (by omega))⟩
  · rw [e 0 6 (by omega) (by omega)]; exact h2
  · rw [e 0 7 (by omega) (by omega)]; exact h3
  · rw [e0, e1]
  · rw [e 36 1 (by omega) (by omega), e 0 8 (by omega) (by omega)]; exact h8
theorem tp_I_t (k : Int32) (h : tp_J M s o) (e0 : M' 0 8 = k) (e1 : M' 36 1 = k) (e : ∀ a b, ¬ (a = 0 ∧ b = 8) → ¬ (a = 36 ∧ b = 1) → M' a b = M a b) : tp_J M' s o := by
  obtain ⟨h1, h2, h3, h4, h5, h6, h7, h8, h9, h10⟩ := h
  have ho : o = 16 ∨ o = 22 := h1
  refine ⟨h1, ?_, ?_, h4, tp_C_fr h5 (fun a b q1 q2 => e a b (by omega) (by omega)), tp_D_fr h6 (fun b q1 q2 => e 36 b (by omega) (by omega)) (fun a b q1 q2 => e a b (by omega) (by omega)), ?_, ?_, tp_rd_fr h9 (fun a b q1 q2 => e a b (by omega) (by omega)) (e 36 27 (by omega) (by omega)) (fun a b q1 q2 => e a b (by omega) (by omega)), tp_sh_fr h10 (fun a b q1 q2 q3 => e a b (by omega) (by omega))⟩
  · rw [e 0 6 (by omega) (by omega)]; exact h2
  · rw [e 0 7 (by omega) (by omega)]; exact h3
  · rw [e 36 0 (by omega) (by omega), e 0 9 (by omega) (by omega)]; exact h7
  · rw [e0, e1]
end TPI
def tp_su (s : tp_S) (i j v : Nat) : tp_S := fun a b => if a = i ∧ b = j then v else s a b
