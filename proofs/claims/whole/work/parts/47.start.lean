/-! the memory that the constructors leave -/
def jx_M0 : jx_M := fun a b => if a = 0 ∧ b = 6 then 16 else if a = 0 ∧ b = 7 then 22 else if a = 2 ∧ (b = 0 ∨ b = 1) then -1 else if a = 9 ∧ b = 4 then -1 else if a = 37 ∧ b < 4 then -9 else 0
theorem jx_M0_z {a b : Nat} (h0 : ¬ a = 0) (h2 : ¬ a = 2) (h9 : ¬ a = 9) (h37 : ¬ a = 37) : jx_M0 a b = 0 := by
  unfold jx_M0
  rw [if_neg (by omega), if_neg (by omega), if_neg (by omega), if_neg (by omega), if_neg (fun z => h37 z.1)]
theorem tp_I0 : tp_I jx_M0 := by
  have n0 : (0 : Int32) = nI 0 := fa_lit 0
  refine ⟨fun _ _ => 0, 16, Or.inl rfl, ?_, ?_, ⟨by decide, by decide, by decide, by decide, fun p hp => absurd hp (by show ¬ p < 0; omega), fun p hp => absurd hp (by show ¬ p < 0; omega)⟩, ⟨?_, ?_, ?_, ?_, fun p hp => absurd hp (by show ¬ p < 0; omega), fun p hp => absurd hp (by show ¬ p < 0; omega)⟩, ⟨?_, ?_, ?_, ?_, fun p hp => absurd hp (by show ¬ p < 0; omega), fun p hp => absurd hp (by show ¬ p < 0; omega)⟩, ?_, ?_, ⟨0, by decide, ?_, ?_, fun j hj => by omega⟩, fun k hk => ⟨0, 0, by decide, by decide, ?_, ?_, ?_, Or.inl ⟨?_, ?_⟩, fun j hj => ?_⟩⟩
  · decide
  · decide
  · decide
  · decide
  · decide
  · decide
  · decide
  · decide
  · decide
  · decide
  · decide
  · decide
  · decide
  · decide
  · rw [jx_M0_z (by omega) (by omega) (by omega) (by omega)]; exact n0
  · rw [jx_M0_z (by omega) (by omega) (by omega) (by omega)]; exact n0
  · rw [jx_M0_z (by omega) (by omega) (by omega) (by omega)]; exact n0
  · rw [jx_M0_z (by omega) (by omega) (by omega) (by omega)]
  · unfold jx_M0; rw [if_neg (by omega), if_neg (by omega), if_neg (by omega), if_neg (by omega), if_pos ⟨rfl, hk⟩]
  · rw [jx_M0_z (by omega) (by omega) (by omega) (by omega), jx_M0_z (by omega) (by omega) (by omega) (by omega)]
