/-! from the constructors' cells to the places -/
theorem jx_arrV {cA : ClassId} {n : Nat} {f g : Nat → Value} (h : ∀ j, j < n → f j = g j) : arrV cA n f = arrV cA n g := by
  unfold arrV
  congr 1
  first
    | (apply Array.ext
       · simp
       · intro i h1 h2; simp at h1 ⊢; exact h i h1)
    | (congr 1; funext i; exact h _ i.2)
    | (congr 1; apply List.map_congr_left; intro j hj; exact h j (List.mem_range.mp hj))
