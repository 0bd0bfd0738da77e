/-! from the constructors' cells to the places (law.py) -/
def jx_ad (W : va_W) (k : Nat) : Nat := (W.map (fun q => q.1)).getD k 0
theorem jx_ad_at {W : va_W} {k : Nat} (h : k < W.length) : ∃ e, W[k]? = some (jx_ad W k, e) := by
  refine ⟨(W[k]).2, ?_⟩
  rw [List.getElem?_eq_getElem h]
  simp [jx_ad, h]
theorem jx_ad_inj {W : va_W} {A : Nat → Prop} (hD : va_D A W) (h : W.length = 56) : jx_inj (jx_ad W) := by
  intro i j hi hj e
  obtain ⟨x, hx⟩ := jx_ad_at (W := W) (k := i) (by omega)
  obtain ⟨y, hy⟩ := jx_ad_at (W := W) (k := j) (by omega)
  exact hD.1 i j _ _ hx hy e
theorem jx_ad_in {W : va_W} {A : Nat → Prop} (hD : va_D A W) (h : W.length = 56) : ∀ k, k < 56 → A (jx_ad W k) := by
  intro k hk
  obtain ⟨x, hx⟩ := jx_ad_at (W := W) (k := k) (by omega)
  exact hD.2 k _ hx
theorem jx_eZ {ad : Nat → Nat} {cI cS : ClassId} {k n : Nat} (h : jx_cl k = 9) (hn : jx_sz k = n) (h37 : ¬ k = 37) : jx_ce ad cI cS (jx_M0 k) k = .inl (cI, n, .inl (fun _ => 0)) := by
  have h0 : ¬ k = 0 := fun z => by subst z; exact absurd h (by decide)
  have h2 : ¬ k = 2 := fun z => by subst z; exact absurd h (by decide)
  have h9 : ¬ k = 9 := fun z => by subst z; exact absurd h (by decide)
  rw [jx_ce_arr h, hn, show jx_M0 k = (fun _ => 0) from funext (fun b => jx_M0_z h0 h2 h9 h37)]
theorem jx_rv_n : jx_rv (-1) = .null := by unfold jx_rv; rw [if_pos (by decide)]
theorem jx_rv_16 : jx_rv 16 = .ref 16 := by unfold jx_rv; rw [if_neg (by decide)]; rfl
theorem jx_rv_22 : jx_rv 22 = .ref 22 := by unfold jx_rv; rw [if_neg (by decide)]; rfl
theorem jx_m0_6 : jx_M0 0 6 = 16 := by decide
theorem jx_m0_7 : jx_M0 0 7 = 22 := by decide
theorem jx_m2_0 : jx_M0 2 0 = -1 := by decide
theorem jx_m2_1 : jx_M0 2 1 = -1 := by decide
theorem jx_m9_4 : jx_M0 9 4 = -1 := by decide
theorem jx_e0 {ad : Nat → Nat} {cI cS : ClassId} : jx_ce ad cI cS (jx_M0 0) 0 = .inr (7, [.ref (ad 1), .ref (ad 2), .ref (ad 3), .ref (ad 7), .ref (ad 9), .ref (ad 13), .ref (ad 16), .ref (ad 22), .int 0, .int 0]) := by
  have hl : (List.range (jx_sz 0)).map (fun j => jx_cv ad (jx_fv (jx_fk (jx_cl 0) j) (jx_M0 0) 0 j)) = [.ref (ad 1), .ref (ad 2), .ref (ad 3), .ref (ad 7), .ref (ad 9), .ref (ad 13), .ref (ad 16), .ref (ad 22), .int 0, .int 0] := by
    show [jx_cv ad (jx_fv (jx_fk 7 0) (jx_M0 0) 0 0), jx_cv ad (jx_fv (jx_fk 7 1) (jx_M0 0) 0 1), jx_cv ad (jx_fv (jx_fk 7 2) (jx_M0 0) 0 2), jx_cv ad (jx_fv (jx_fk 7 3) (jx_M0 0) 0 3), jx_cv ad (jx_fv (jx_fk 7 4) (jx_M0 0) 0 4), jx_cv ad (jx_fv (jx_fk 7 5) (jx_M0 0) 0 5), jx_cv ad (jx_fv (jx_fk 7 6) (jx_M0 0) 0 6), jx_cv ad (jx_fv (jx_fk 7 7) (jx_M0 0) 0 7), jx_cv ad (jx_fv (jx_fk 7 8) (jx_M0 0) 0 8), jx_cv ad (jx_fv (jx_fk 7 9) (jx_M0 0) 0 9)] = _
    have f0 : jx_cv ad (jx_fv (jx_fk 7 0) (jx_M0 0) 0 0) = (.ref (ad 1) : Value) := rfl
    have f1 : jx_cv ad (jx_fv (jx_fk 7 1) (jx_M0 0) 0 1) = (.ref (ad 2) : Value) := rfl
    have f2 : jx_cv ad (jx_fv (jx_fk 7 2) (jx_M0 0) 0 2) = (.ref (ad 3) : Value) := rfl
    have f3 : jx_cv ad (jx_fv (jx_fk 7 3) (jx_M0 0) 0 3) = (.ref (ad 7) : Value) := rfl
    have f4 : jx_cv ad (jx_fv (jx_fk 7 4) (jx_M0 0) 0 4) = (.ref (ad 9) : Value) := rfl
    have f5 : jx_cv ad (jx_fv (jx_fk 7 5) (jx_M0 0) 0 5) = (.ref (ad 13) : Value) := rfl
    have f6 : jx_cv ad (jx_fv (jx_fk 7 6) (jx_M0 0) 0 6) = (.ref (ad 16) : Value) := by
      show jx_cv ad (jx_rv (jx_M0 0 6)) = _
      rw [jx_m0_6, jx_rv_16]; rfl
    have f7 : jx_cv ad (jx_fv (jx_fk 7 7) (jx_M0 0) 0 7) = (.ref (ad 22) : Value) := by
      show jx_cv ad (jx_rv (jx_M0 0 7)) = _
      rw [jx_m0_7, jx_rv_22]; rfl
    have f8 : jx_cv ad (jx_fv (jx_fk 7 8) (jx_M0 0) 0 8) = (.int 0 : Value) := by
      show Value.int (jx_M0 0 8) = _
      rw [show jx_M0 0 8 = 0 by decide]
    have f9 : jx_cv ad (jx_fv (jx_fk 7 9) (jx_M0 0) 0 9) = (.int 0 : Value) := by
      show Value.int (jx_M0 0 9) = _
      rw [show jx_M0 0 9 = 0 by decide]
    rw [f0, f1, f2, f3, f4, f5, f6, f7, f8, f9]
  rw [jx_ce_obj (by decide), hl]
  rfl
theorem jx_e2 {ad : Nat → Nat} {cI cS : ClassId} : jx_ce ad cI cS (jx_M0 2) 2 = .inr (6, [.null, .null, .int 0, .int 0, .int 0]) := by
  have hl : (List.range (jx_sz 2)).map (fun j => jx_cv ad (jx_fv (jx_fk (jx_cl 2) j) (jx_M0 2) 2 j)) = [.null, .null, .int 0, .int 0, .int 0] := by
    show [jx_cv ad (jx_fv (jx_fk 6 0) (jx_M0 2) 2 0), jx_cv ad (jx_fv (jx_fk 6 1) (jx_M0 2) 2 1), jx_cv ad (jx_fv (jx_fk 6 2) (jx_M0 2) 2 2), jx_cv ad (jx_fv (jx_fk 6 3) (jx_M0 2) 2 3), jx_cv ad (jx_fv (jx_fk 6 4) (jx_M0 2) 2 4)] = _
    have f0 : jx_cv ad (jx_fv (jx_fk 6 0) (jx_M0 2) 2 0) = (.null : Value) := by
      show jx_cv ad (jx_rv (jx_M0 2 0)) = _
      rw [jx_m2_0, jx_rv_n]; rfl
    have f1 : jx_cv ad (jx_fv (jx_fk 6 1) (jx_M0 2) 2 1) = (.null : Value) := by
      show jx_cv ad (jx_rv (jx_M0 2 1)) = _
      rw [jx_m2_1, jx_rv_n]; rfl
    have f2 : jx_cv ad (jx_fv (jx_fk 6 2) (jx_M0 2) 2 2) = (.int 0 : Value) := by
      show Value.int (jx_M0 2 2) = _
      rw [show jx_M0 2 2 = 0 by decide]
    have f3 : jx_cv ad (jx_fv (jx_fk 6 3) (jx_M0 2) 2 3) = (.int 0 : Value) := by
      show Value.int (jx_M0 2 3) = _
      rw [show jx_M0 2 3 = 0 by decide]
    have f4 : jx_cv ad (jx_fv (jx_fk 6 4) (jx_M0 2) 2 4) = (.int 0 : Value) := by
      show Value.int (jx_M0 2 4) = _
      rw [show jx_M0 2 4 = 0 by decide]
    rw [f0, f1, f2, f3, f4]
  rw [jx_ce_obj (by decide), hl]
  rfl
theorem jx_e3 {ad : Nat → Nat} {cI cS : ClassId} : jx_ce ad cI cS (jx_M0 3) 3 = .inr (3, [.ref (ad 4), .ref (ad 5), .ref (ad 6), .int 0]) := by
  have hl : (List.range (jx_sz 3)).map (fun j => jx_cv ad (jx_fv (jx_fk (jx_cl 3) j) (jx_M0 3) 3 j)) = [.ref (ad 4), .ref (ad 5), .ref (ad 6), .int 0] := by
    show [jx_cv ad (jx_fv (jx_fk 3 0) (jx_M0 3) 3 0), jx_cv ad (jx_fv (jx_fk 3 1) (jx_M0 3) 3 1), jx_cv ad (jx_fv (jx_fk 3 2) (jx_M0 3) 3 2), jx_cv ad (jx_fv (jx_fk 3 3) (jx_M0 3) 3 3)] = _
    have f0 : jx_cv ad (jx_fv (jx_fk 3 0) (jx_M0 3) 3 0) = (.ref (ad 4) : Value) := rfl
    have f1 : jx_cv ad (jx_fv (jx_fk 3 1) (jx_M0 3) 3 1) = (.ref (ad 5) : Value) := rfl
    have f2 : jx_cv ad (jx_fv (jx_fk 3 2) (jx_M0 3) 3 2) = (.ref (ad 6) : Value) := rfl
    have f3 : jx_cv ad (jx_fv (jx_fk 3 3) (jx_M0 3) 3 3) = (.int 0 : Value) := by
      show Value.int (jx_M0 3 3) = _
      rw [show jx_M0 3 3 = 0 by decide]
    rw [f0, f1, f2, f3]
  rw [jx_ce_obj (by decide), hl]
  rfl
theorem jx_e7 {ad : Nat → Nat} {cI cS : ClassId} : jx_ce ad cI cS (jx_M0 7) 7 = .inr (2, [.ref (ad 8)]) := by
  have hl : (List.range (jx_sz 7)).map (fun j => jx_cv ad (jx_fv (jx_fk (jx_cl 7) j) (jx_M0 7) 7 j)) = [.ref (ad 8)] := by
    show [jx_cv ad (jx_fv (jx_fk 2 0) (jx_M0 7) 7 0)] = _
    have f0 : jx_cv ad (jx_fv (jx_fk 2 0) (jx_M0 7) 7 0) = (.ref (ad 8) : Value) := rfl
    rw [f0]
  rw [jx_ce_obj (by decide), hl]
  rfl
theorem jx_e9 {ad : Nat → Nat} {cI cS : ClassId} : jx_ce ad cI cS (jx_M0 9) 9 = .inr (0, [.ref (ad 10), .int 0, .ref (ad 11), .ref (ad 12), .null, .int 0]) := by
  have hl : (List.range (jx_sz 9)).map (fun j => jx_cv ad (jx_fv (jx_fk (jx_cl 9) j) (jx_M0 9) 9 j)) = [.ref (ad 10), .int 0, .ref (ad 11), .ref (ad 12), .null, .int 0] := by
    show [jx_cv ad (jx_fv (jx_fk 0 0) (jx_M0 9) 9 0), jx_cv ad (jx_fv (jx_fk 0 1) (jx_M0 9) 9 1), jx_cv ad (jx_fv (jx_fk 0 2) (jx_M0 9) 9 2), jx_cv ad (jx_fv (jx_fk 0 3) (jx_M0 9) 9 3), jx_cv ad (jx_fv (jx_fk 0 4) (jx_M0 9) 9 4), jx_cv ad (jx_fv (jx_fk 0 5) (jx_M0 9) 9 5)] = _
    have f0 : jx_cv ad (jx_fv (jx_fk 0 0) (jx_M0 9) 9 0) = (.ref (ad 10) : Value) := rfl
    have f1 : jx_cv ad (jx_fv (jx_fk 0 1) (jx_M0 9) 9 1) = (.int 0 : Value) := by
      show Value.int (jx_M0 9 1) = _
      rw [show jx_M0 9 1 = 0 by decide]
    have f2 : jx_cv ad (jx_fv (jx_fk 0 2) (jx_M0 9) 9 2) = (.ref (ad 11) : Value) := rfl
    have f3 : jx_cv ad (jx_fv (jx_fk 0 3) (jx_M0 9) 9 3) = (.ref (ad 12) : Value) := rfl
    have f4 : jx_cv ad (jx_fv (jx_fk 0 4) (jx_M0 9) 9 4) = (.null : Value) := by
      show jx_cv ad (jx_rv (jx_M0 9 4)) = _
      rw [jx_m9_4, jx_rv_n]; rfl
    have f5 : jx_cv ad (jx_fv (jx_fk 0 5) (jx_M0 9) 9 5) = (.int 0 : Value) := by
      show Value.int (jx_M0 9 5) = _
      rw [show jx_M0 9 5 = 0 by decide]
    rw [f0, f1, f2, f3, f4, f5]
  rw [jx_ce_obj (by decide), hl]
  rfl
theorem jx_e13 {ad : Nat → Nat} {cI cS : ClassId} : jx_ce ad cI cS (jx_M0 13) 13 = .inr (5, [.ref (ad 14), .ref (ad 15), .int 0, .int 0]) := by
  have hl : (List.range (jx_sz 13)).map (fun j => jx_cv ad (jx_fv (jx_fk (jx_cl 13) j) (jx_M0 13) 13 j)) = [.ref (ad 14), .ref (ad 15), .int 0, .int 0] := by
    show [jx_cv ad (jx_fv (jx_fk 5 0) (jx_M0 13) 13 0), jx_cv ad (jx_fv (jx_fk 5 1) (jx_M0 13) 13 1), jx_cv ad (jx_fv (jx_fk 5 2) (jx_M0 13) 13 2), jx_cv ad (jx_fv (jx_fk 5 3) (jx_M0 13) 13 3)] = _
    have f0 : jx_cv ad (jx_fv (jx_fk 5 0) (jx_M0 13) 13 0) = (.ref (ad 14) : Value) := rfl
    have f1 : jx_cv ad (jx_fv (jx_fk 5 1) (jx_M0 13) 13 1) = (.ref (ad 15) : Value) := rfl
    have f2 : jx_cv ad (jx_fv (jx_fk 5 2) (jx_M0 13) 13 2) = (.int 0 : Value) := by
      show Value.int (jx_M0 13 2) = _
      rw [show jx_M0 13 2 = 0 by decide]
    have f3 : jx_cv ad (jx_fv (jx_fk 5 3) (jx_M0 13) 13 3) = (.int 0 : Value) := by
      show Value.int (jx_M0 13 3) = _
      rw [show jx_M0 13 3 = 0 by decide]
    rw [f0, f1, f2, f3]
  rw [jx_ce_obj (by decide), hl]
  rfl
theorem jx_e16 {ad : Nat → Nat} {cI cS : ClassId} : jx_ce ad cI cS (jx_M0 16) 16 = .inr (1, [.ref (ad 17), .ref (ad 18), .ref (ad 19), .ref (ad 20), .ref (ad 21), .int 0, .int 0, .int 0, .int 0]) := by
  have hl : (List.range (jx_sz 16)).map (fun j => jx_cv ad (jx_fv (jx_fk (jx_cl 16) j) (jx_M0 16) 16 j)) = [.ref (ad 17), .ref (ad 18), .ref (ad 19), .ref (ad 20), .ref (ad 21), .int 0, .int 0, .int 0, .int 0] := by
    show [jx_cv ad (jx_fv (jx_fk 1 0) (jx_M0 16) 16 0), jx_cv ad (jx_fv (jx_fk 1 1) (jx_M0 16) 16 1), jx_cv ad (jx_fv (jx_fk 1 2) (jx_M0 16) 16 2), jx_cv ad (jx_fv (jx_fk 1 3) (jx_M0 16) 16 3), jx_cv ad (jx_fv (jx_fk 1 4) (jx_M0 16) 16 4), jx_cv ad (jx_fv (jx_fk 1 5) (jx_M0 16) 16 5), jx_cv ad (jx_fv (jx_fk 1 6) (jx_M0 16) 16 6), jx_cv ad (jx_fv (jx_fk 1 7) (jx_M0 16) 16 7), jx_cv ad (jx_fv (jx_fk 1 8) (jx_M0 16) 16 8)] = _
    have f0 : jx_cv ad (jx_fv (jx_fk 1 0) (jx_M0 16) 16 0) = (.ref (ad 17) : Value) := rfl
    have f1 : jx_cv ad (jx_fv (jx_fk 1 1) (jx_M0 16) 16 1) = (.ref (ad 18) : Value) := rfl
    have f2 : jx_cv ad (jx_fv (jx_fk 1 2) (jx_M0 16) 16 2) = (.ref (ad 19) : Value) := rfl
    have f3 : jx_cv ad (jx_fv (jx_fk 1 3) (jx_M0 16) 16 3) = (.ref (ad 20) : Value) := rfl
    have f4 : jx_cv ad (jx_fv (jx_fk 1 4) (jx_M0 16) 16 4) = (.ref (ad 21) : Value) := rfl
    have f5 : jx_cv ad (jx_fv (jx_fk 1 5) (jx_M0 16) 16 5) = (.int 0 : Value) := by
      show Value.int (jx_M0 16 5) = _
      rw [show jx_M0 16 5 = 0 by decide]
    have f6 : jx_cv ad (jx_fv (jx_fk 1 6) (jx_M0 16) 16 6) = (.int 0 : Value) := by
      show Value.int (jx_M0 16 6) = _
      rw [show jx_M0 16 6 = 0 by decide]
    have f7 : jx_cv ad (jx_fv (jx_fk 1 7) (jx_M0 16) 16 7) = (.int 0 : Value) := by
      show Value.int (jx_M0 16 7) = _
      rw [show jx_M0 16 7 = 0 by decide]
    have f8 : jx_cv ad (jx_fv (jx_fk 1 8) (jx_M0 16) 16 8) = (.int 0 : Value) := by
      show Value.int (jx_M0 16 8) = _
      rw [show jx_M0 16 8 = 0 by decide]
    rw [f0, f1, f2, f3, f4, f5, f6, f7, f8]
  rw [jx_ce_obj (by decide), hl]
  rfl
theorem jx_e22 {ad : Nat → Nat} {cI cS : ClassId} : jx_ce ad cI cS (jx_M0 22) 22 = .inr (1, [.ref (ad 23), .ref (ad 24), .ref (ad 25), .ref (ad 26), .ref (ad 27), .int 0, .int 0, .int 0, .int 0]) := by
  have hl : (List.range (jx_sz 22)).map (fun j => jx_cv ad (jx_fv (jx_fk (jx_cl 22) j) (jx_M0 22) 22 j)) = [.ref (ad 23), .ref (ad 24), .ref (ad 25), .ref (ad 26), .ref (ad 27), .int 0, .int 0, .int 0, .int 0] := by
    show [jx_cv ad (jx_fv (jx_fk 1 0) (jx_M0 22) 22 0), jx_cv ad (jx_fv (jx_fk 1 1) (jx_M0 22) 22 1), jx_cv ad (jx_fv (jx_fk 1 2) (jx_M0 22) 22 2), jx_cv ad (jx_fv (jx_fk 1 3) (jx_M0 22) 22 3), jx_cv ad (jx_fv (jx_fk 1 4) (jx_M0 22) 22 4), jx_cv ad (jx_fv (jx_fk 1 5) (jx_M0 22) 22 5), jx_cv ad (jx_fv (jx_fk 1 6) (jx_M0 22) 22 6), jx_cv ad (jx_fv (jx_fk 1 7) (jx_M0 22) 22 7), jx_cv ad (jx_fv (jx_fk 1 8) (jx_M0 22) 22 8)] = _
    have f0 : jx_cv ad (jx_fv (jx_fk 1 0) (jx_M0 22) 22 0) = (.ref (ad 23) : Value) := rfl
    have f1 : jx_cv ad (jx_fv (jx_fk 1 1) (jx_M0 22) 22 1) = (.ref (ad 24) : Value) := rfl
    have f2 : jx_cv ad (jx_fv (jx_fk 1 2) (jx_M0 22) 22 2) = (.ref (ad 25) : Value) := rfl
    have f3 : jx_cv ad (jx_fv (jx_fk 1 3) (jx_M0 22) 22 3) = (.ref (ad 26) : Value) := rfl
    have f4 : jx_cv ad (jx_fv (jx_fk 1 4) (jx_M0 22) 22 4) = (.ref (ad 27) : Value) := rfl
    have f5 : jx_cv ad (jx_fv (jx_fk 1 5) (jx_M0 22) 22 5) = (.int 0 : Value) := by
      show Value.int (jx_M0 22 5) = _
      rw [show jx_M0 22 5 = 0 by decide]
    have f6 : jx_cv ad (jx_fv (jx_fk 1 6) (jx_M0 22) 22 6) = (.int 0 : Value) := by
      show Value.int (jx_M0 22 6) = _
      rw [show jx_M0 22 6 = 0 by decide]
    have f7 : jx_cv ad (jx_fv (jx_fk 1 7) (jx_M0 22) 22 7) = (.int 0 : Value) := by
      show Value.int (jx_M0 22 7) = _
      rw [show jx_M0 22 7 = 0 by decide]
    have f8 : jx_cv ad (jx_fv (jx_fk 1 8) (jx_M0 22) 22 8) = (.int 0 : Value) := by
      show Value.int (jx_M0 22 8) = _
      rw [show jx_M0 22 8 = 0 by decide]
    rw [f0, f1, f2, f3, f4, f5, f6, f7, f8]
  rw [jx_ce_obj (by decide), hl]
  rfl
theorem jx_e28 {ad : Nat → Nat} {cI cS : ClassId} : jx_ce ad cI cS (jx_M0 28) 28 = .inr (4, [.ref (ad 29), .int 0, .int 0, .int 0]) := by
  have hl : (List.range (jx_sz 28)).map (fun j => jx_cv ad (jx_fv (jx_fk (jx_cl 28) j) (jx_M0 28) 28 j)) = [.ref (ad 29), .int 0, .int 0, .int 0] := by
    show [jx_cv ad (jx_fv (jx_fk 4 0) (jx_M0 28) 28 0), jx_cv ad (jx_fv (jx_fk 4 1) (jx_M0 28) 28 1), jx_cv ad (jx_fv (jx_fk 4 2) (jx_M0 28) 28 2), jx_cv ad (jx_fv (jx_fk 4 3) (jx_M0 28) 28 3)] = _
    have f0 : jx_cv ad (jx_fv (jx_fk 4 0) (jx_M0 28) 28 0) = (.ref (ad 29) : Value) := rfl
    have f1 : jx_cv ad (jx_fv (jx_fk 4 1) (jx_M0 28) 28 1) = (.int 0 : Value) := by
      show Value.int (jx_M0 28 1) = _
      rw [show jx_M0 28 1 = 0 by decide]
    have f2 : jx_cv ad (jx_fv (jx_fk 4 2) (jx_M0 28) 28 2) = (.int 0 : Value) := by
      show Value.int (jx_M0 28 2) = _
      rw [show jx_M0 28 2 = 0 by decide]
    have f3 : jx_cv ad (jx_fv (jx_fk 4 3) (jx_M0 28) 28 3) = (.int 0 : Value) := by
      show Value.int (jx_M0 28 3) = _
      rw [show jx_M0 28 3 = 0 by decide]
    rw [f0, f1, f2, f3]
  rw [jx_ce_obj (by decide), hl]
  rfl
theorem jx_e30 {ad : Nat → Nat} {cI cS : ClassId} : jx_ce ad cI cS (jx_M0 30) 30 = .inr (4, [.ref (ad 31), .int 0, .int 0, .int 0]) := by
  have hl : (List.range (jx_sz 30)).map (fun j => jx_cv ad (jx_fv (jx_fk (jx_cl 30) j) (jx_M0 30) 30 j)) = [.ref (ad 31), .int 0, .int 0, .int 0] := by
    show [jx_cv ad (jx_fv (jx_fk 4 0) (jx_M0 30) 30 0), jx_cv ad (jx_fv (jx_fk 4 1) (jx_M0 30) 30 1), jx_cv ad (jx_fv (jx_fk 4 2) (jx_M0 30) 30 2), jx_cv ad (jx_fv (jx_fk 4 3) (jx_M0 30) 30 3)] = _
    have f0 : jx_cv ad (jx_fv (jx_fk 4 0) (jx_M0 30) 30 0) = (.ref (ad 31) : Value) := rfl
    have f1 : jx_cv ad (jx_fv (jx_fk 4 1) (jx_M0 30) 30 1) = (.int 0 : Value) := by
      show Value.int (jx_M0 30 1) = _
      rw [show jx_M0 30 1 = 0 by decide]
    have f2 : jx_cv ad (jx_fv (jx_fk 4 2) (jx_M0 30) 30 2) = (.int 0 : Value) := by
      show Value.int (jx_M0 30 2) = _
      rw [show jx_M0 30 2 = 0 by decide]
    have f3 : jx_cv ad (jx_fv (jx_fk 4 3) (jx_M0 30) 30 3) = (.int 0 : Value) := by
      show Value.int (jx_M0 30 3) = _
      rw [show jx_M0 30 3 = 0 by decide]
    rw [f0, f1, f2, f3]
  rw [jx_ce_obj (by decide), hl]
  rfl
theorem jx_e32 {ad : Nat → Nat} {cI cS : ClassId} : jx_ce ad cI cS (jx_M0 32) 32 = .inr (4, [.ref (ad 33), .int 0, .int 0, .int 0]) := by
  have hl : (List.range (jx_sz 32)).map (fun j => jx_cv ad (jx_fv (jx_fk (jx_cl 32) j) (jx_M0 32) 32 j)) = [.ref (ad 33), .int 0, .int 0, .int 0] := by
    show [jx_cv ad (jx_fv (jx_fk 4 0) (jx_M0 32) 32 0), jx_cv ad (jx_fv (jx_fk 4 1) (jx_M0 32) 32 1), jx_cv ad (jx_fv (jx_fk 4 2) (jx_M0 32) 32 2), jx_cv ad (jx_fv (jx_fk 4 3) (jx_M0 32) 32 3)] = _
    have f0 : jx_cv ad (jx_fv (jx_fk 4 0) (jx_M0 32) 32 0) = (.ref (ad 33) : Value) := rfl
    have f1 : jx_cv ad (jx_fv (jx_fk 4 1) (jx_M0 32) 32 1) = (.int 0 : Value) := by
      show Value.int (jx_M0 32 1) = _
      rw [show jx_M0 32 1 = 0 by decide]
    have f2 : jx_cv ad (jx_fv (jx_fk 4 2) (jx_M0 32) 32 2) = (.int 0 : Value) := by
      show Value.int (jx_M0 32 2) = _
      rw [show jx_M0 32 2 = 0 by decide]
    have f3 : jx_cv ad (jx_fv (jx_fk 4 3) (jx_M0 32) 32 3) = (.int 0 : Value) := by
      show Value.int (jx_M0 32 3) = _
      rw [show jx_M0 32 3 = 0 by decide]
    rw [f0, f1, f2, f3]
  rw [jx_ce_obj (by decide), hl]
  rfl
theorem jx_e34 {ad : Nat → Nat} {cI cS : ClassId} : jx_ce ad cI cS (jx_M0 34) 34 = .inr (4, [.ref (ad 35), .int 0, .int 0, .int 0]) := by
  have hl : (List.range (jx_sz 34)).map (fun j => jx_cv ad (jx_fv (jx_fk (jx_cl 34) j) (jx_M0 34) 34 j)) = [.ref (ad 35), .int 0, .int 0, .int 0] := by
    show [jx_cv ad (jx_fv (jx_fk 4 0) (jx_M0 34) 34 0), jx_cv ad (jx_fv (jx_fk 4 1) (jx_M0 34) 34 1), jx_cv ad (jx_fv (jx_fk 4 2) (jx_M0 34) 34 2), jx_cv ad (jx_fv (jx_fk 4 3) (jx_M0 34) 34 3)] = _
    have f0 : jx_cv ad (jx_fv (jx_fk 4 0) (jx_M0 34) 34 0) = (.ref (ad 35) : Value) := rfl
    have f1 : jx_cv ad (jx_fv (jx_fk 4 1) (jx_M0 34) 34 1) = (.int 0 : Value) := by
      show Value.int (jx_M0 34 1) = _
      rw [show jx_M0 34 1 = 0 by decide]
    have f2 : jx_cv ad (jx_fv (jx_fk 4 2) (jx_M0 34) 34 2) = (.int 0 : Value) := by
      show Value.int (jx_M0 34 2) = _
      rw [show jx_M0 34 2 = 0 by decide]
    have f3 : jx_cv ad (jx_fv (jx_fk 4 3) (jx_M0 34) 34 3) = (.int 0 : Value) := by
      show Value.int (jx_M0 34 3) = _
      rw [show jx_M0 34 3 = 0 by decide]
    rw [f0, f1, f2, f3]
  rw [jx_ce_obj (by decide), hl]
  rfl
theorem jx_e36 {ad : Nat → Nat} {cI cS : ClassId} : jx_ce ad cI cS (jx_M0 36) 36 = .inr (8, [.int 0, .int 0, .ref (ad 37), .ref (ad 38), .ref (ad 39), .int 0, .int 0, .int 0, .int 0, .ref (ad 40), .ref (ad 41), .ref (ad 42), .ref (ad 43), .ref (ad 44), .int 0, .int 0, .int 0, .int 0, .int 0, .ref (ad 45), .ref (ad 46), .ref (ad 47), .ref (ad 48), .ref (ad 49), .ref (ad 50), .ref (ad 51), .ref (ad 52), .int 0, .ref (ad 53), .ref (ad 54), .ref (ad 55)]) := by
  have hl : (List.range (jx_sz 36)).map (fun j => jx_cv ad (jx_fv (jx_fk (jx_cl 36) j) (jx_M0 36) 36 j)) = [.int 0, .int 0, .ref (ad 37), .ref (ad 38), .ref (ad 39), .int 0, .int 0, .int 0, .int 0, .ref (ad 40), .ref (ad 41), .ref (ad 42), .ref (ad 43), .ref (ad 44), .int 0, .int 0, .int 0, .int 0, .int 0, .ref (ad 45), .ref (ad 46), .ref (ad 47), .ref (ad 48), .ref (ad 49), .ref (ad 50), .ref (ad 51), .ref (ad 52), .int 0, .ref (ad 53), .ref (ad 54), .ref (ad 55)] := by
    show [jx_cv ad (jx_fv (jx_fk 8 0) (jx_M0 36) 36 0), jx_cv ad (jx_fv (jx_fk 8 1) (jx_M0 36) 36 1), jx_cv ad (jx_fv (jx_fk 8 2) (jx_M0 36) 36 2), jx_cv ad (jx_fv (jx_fk 8 3) (jx_M0 36) 36 3), jx_cv ad (jx_fv (jx_fk 8 4) (jx_M0 36) 36 4), jx_cv ad (jx_fv (jx_fk 8 5) (jx_M0 36) 36 5), jx_cv ad (jx_fv (jx_fk 8 6) (jx_M0 36) 36 6), jx_cv ad (jx_fv (jx_fk 8 7) (jx_M0 36) 36 7), jx_cv ad (jx_fv (jx_fk 8 8) (jx_M0 36) 36 8), jx_cv ad (jx_fv (jx_fk 8 9) (jx_M0 36) 36 9), jx_cv ad (jx_fv (jx_fk 8 10) (jx_M0 36) 36 10), jx_cv ad (jx_fv (jx_fk 8 11) (jx_M0 36) 36 11), jx_cv ad (jx_fv (jx_fk 8 12) (jx_M0 36) 36 12), jx_cv ad (jx_fv (jx_fk 8 13) (jx_M0 36) 36 13), jx_cv ad (jx_fv (jx_fk 8 14) (jx_M0 36) 36 14), jx_cv ad (jx_fv (jx_fk 8 15) (jx_M0 36) 36 15), jx_cv ad (jx_fv (jx_fk 8 16) (jx_M0 36) 36 16), jx_cv ad (jx_fv (jx_fk 8 17) (jx_M0 36) 36 17), jx_cv ad (jx_fv (jx_fk 8 18) (jx_M0 36) 36 18), jx_cv ad (jx_fv (jx_fk 8 19) (jx_M0 36) 36 19), jx_cv ad (jx_fv (jx_fk 8 20) (jx_M0 36) 36 20), jx_cv ad (jx_fv (jx_fk 8 21) (jx_M0 36) 36 21), jx_cv ad (jx_fv (jx_fk 8 22) (jx_M0 36) 36 22), jx_cv ad (jx_fv (jx_fk 8 23) (jx_M0 36) 36 23), jx_cv ad (jx_fv (jx_fk 8 24) (jx_M0 36) 36 24), jx_cv ad (jx_fv (jx_fk 8 25) (jx_M0 36) 36 25), jx_cv ad (jx_fv (jx_fk 8 26) (jx_M0 36) 36 26), jx_cv ad (jx_fv (jx_fk 8 27) (jx_M0 36) 36 27), jx_cv ad (jx_fv (jx_fk 8 28) (jx_M0 36) 36 28), jx_cv ad (jx_fv (jx_fk 8 29) (jx_M0 36) 36 29), jx_cv ad (jx_fv (jx_fk 8 30) (jx_M0 36) 36 30)] = _
    have f0 : jx_cv ad (jx_fv (jx_fk 8 0) (jx_M0 36) 36 0) = (.int 0 : Value) := by
      show Value.int (jx_M0 36 0) = _
      rw [show jx_M0 36 0 = 0 by decide]
    have f1 : jx_cv ad (jx_fv (jx_fk 8 1) (jx_M0 36) 36 1) = (.int 0 : Value) := by
      show Value.int (jx_M0 36 1) = _
      rw [show jx_M0 36 1 = 0 by decide]
    have f2 : jx_cv ad (jx_fv (jx_fk 8 2) (jx_M0 36) 36 2) = (.ref (ad 37) : Value) := rfl
    have f3 : jx_cv ad (jx_fv (jx_fk 8 3) (jx_M0 36) 36 3) = (.ref (ad 38) : Value) := rfl
    have f4 : jx_cv ad (jx_fv (jx_fk 8 4) (jx_M0 36) 36 4) = (.ref (ad 39) : Value) := rfl
    have f5 : jx_cv ad (jx_fv (jx_fk 8 5) (jx_M0 36) 36 5) = (.int 0 : Value) := by
      show Value.int (jx_M0 36 5) = _
      rw [show jx_M0 36 5 = 0 by decide]
    have f6 : jx_cv ad (jx_fv (jx_fk 8 6) (jx_M0 36) 36 6) = (.int 0 : Value) := by
      show Value.int (jx_M0 36 6) = _
      rw [show jx_M0 36 6 = 0 by decide]
    have f7 : jx_cv ad (jx_fv (jx_fk 8 7) (jx_M0 36) 36 7) = (.int 0 : Value) := by
      show Value.int (jx_M0 36 7) = _
      rw [show jx_M0 36 7 = 0 by decide]
    have f8 : jx_cv ad (jx_fv (jx_fk 8 8) (jx_M0 36) 36 8) = (.int 0 : Value) := by
      show Value.int (jx_M0 36 8) = _
      rw [show jx_M0 36 8 = 0 by decide]
    have f9 : jx_cv ad (jx_fv (jx_fk 8 9) (jx_M0 36) 36 9) = (.ref (ad 40) : Value) := rfl
    have f10 : jx_cv ad (jx_fv (jx_fk 8 10) (jx_M0 36) 36 10) = (.ref (ad 41) : Value) := rfl
    have f11 : jx_cv ad (jx_fv (jx_fk 8 11) (jx_M0 36) 36 11) = (.ref (ad 42) : Value) := rfl
    have f12 : jx_cv ad (jx_fv (jx_fk 8 12) (jx_M0 36) 36 12) = (.ref (ad 43) : Value) := rfl
    have f13 : jx_cv ad (jx_fv (jx_fk 8 13) (jx_M0 36) 36 13) = (.ref (ad 44) : Value) := rfl
    have f14 : jx_cv ad (jx_fv (jx_fk 8 14) (jx_M0 36) 36 14) = (.int 0 : Value) := by
      show Value.int (jx_M0 36 14) = _
      rw [show jx_M0 36 14 = 0 by decide]
    have f15 : jx_cv ad (jx_fv (jx_fk 8 15) (jx_M0 36) 36 15) = (.int 0 : Value) := by
      show Value.int (jx_M0 36 15) = _
      rw [show jx_M0 36 15 = 0 by decide]
    have f16 : jx_cv ad (jx_fv (jx_fk 8 16) (jx_M0 36) 36 16) = (.int 0 : Value) := by
      show Value.int (jx_M0 36 16) = _
      rw [show jx_M0 36 16 = 0 by decide]
    have f17 : jx_cv ad (jx_fv (jx_fk 8 17) (jx_M0 36) 36 17) = (.int 0 : Value) := by
      show Value.int (jx_M0 36 17) = _
      rw [show jx_M0 36 17 = 0 by decide]
    have f18 : jx_cv ad (jx_fv (jx_fk 8 18) (jx_M0 36) 36 18) = (.int 0 : Value) := by
      show Value.int (jx_M0 36 18) = _
      rw [show jx_M0 36 18 = 0 by decide]
    have f19 : jx_cv ad (jx_fv (jx_fk 8 19) (jx_M0 36) 36 19) = (.ref (ad 45) : Value) := rfl
    have f20 : jx_cv ad (jx_fv (jx_fk 8 20) (jx_M0 36) 36 20) = (.ref (ad 46) : Value) := rfl
    have f21 : jx_cv ad (jx_fv (jx_fk 8 21) (jx_M0 36) 36 21) = (.ref (ad 47) : Value) := rfl
    have f22 : jx_cv ad (jx_fv (jx_fk 8 22) (jx_M0 36) 36 22) = (.ref (ad 48) : Value) := rfl
    have f23 : jx_cv ad (jx_fv (jx_fk 8 23) (jx_M0 36) 36 23) = (.ref (ad 49) : Value) := rfl
    have f24 : jx_cv ad (jx_fv (jx_fk 8 24) (jx_M0 36) 36 24) = (.ref (ad 50) : Value) := rfl
    have f25 : jx_cv ad (jx_fv (jx_fk 8 25) (jx_M0 36) 36 25) = (.ref (ad 51) : Value) := rfl
    have f26 : jx_cv ad (jx_fv (jx_fk 8 26) (jx_M0 36) 36 26) = (.ref (ad 52) : Value) := rfl
    have f27 : jx_cv ad (jx_fv (jx_fk 8 27) (jx_M0 36) 36 27) = (.int 0 : Value) := by
      show Value.int (jx_M0 36 27) = _
      rw [show jx_M0 36 27 = 0 by decide]
    have f28 : jx_cv ad (jx_fv (jx_fk 8 28) (jx_M0 36) 36 28) = (.ref (ad 53) : Value) := rfl
    have f29 : jx_cv ad (jx_fv (jx_fk 8 29) (jx_M0 36) 36 29) = (.ref (ad 54) : Value) := rfl
    have f30 : jx_cv ad (jx_fv (jx_fk 8 30) (jx_M0 36) 36 30) = (.ref (ad 55) : Value) := rfl
    rw [f0, f1, f2, f3, f4, f5, f6, f7, f8, f9, f10, f11, f12, f13, f14, f15, f16, f17, f18, f19, f20, f21, f22, f23, f24, f25, f26, f27, f28, f29, f30]
  rw [jx_ce_obj (by decide), hl]
  rfl
set_option maxHeartbeats 4000000 in
set_option maxRecDepth 100000 in
theorem jx_bridge {D : va_G} {cI cS : ClassId} {A : Nat → Prop} {H : Heap} {h0 q0 q1 q2 q3 q4 q5 q6 q7 q8 q9 q10 q11 q12 q13 q14 q15 q16 q17 q18 q19 q20 q21 q22 q23 q24 q25 q26 q27 q28 q29 q30 q31 q32 q33 q34 m0 r0 r1 r2 r3 r4 r5 r6 r7 r8 r9 r10 r11 r12 r13 r14 r15 r16 r17 r18 : Nat} (hP : va_P D vwCl [(h0, .inr (7, [.ref q0, .ref q1, .ref q2, .ref q6, .ref q8, .ref q12, .ref q15, .ref q21, .int 0, .int 0])), (q0, .inl (cS, 4, .inr (.inr (.inr (.inr (va_up (va_up (va_up (va_up (fun _ => none) (0 : Int32).toNatClampNeg (some q27)) (1 : Int32).toNatClampNeg (some q29)) (2 : Int32).toNatClampNeg (some q31)) (3 : Int32).toNatClampNeg (some q33))))))), (q1, .inr (6, [.null, .null, .int 0, .int 0, .int 0])), (q2, .inr (3, [.ref q3, .ref q4, .ref q5, .int 0])), (q3, .inl (cI, 8, .inl (fun _ => 0))), (q4, .inl (cI, 8, .inl (fun _ => 0))), (q5, .inl (cI, 8, .inl (fun _ => 0))), (q6, .inr (2, [.ref q7])), (q7, .inl (cI, 6, .inl (fun _ => 0))), (q8, .inr (0, [.ref q9, .int 0, .ref q10, .ref q11, .null, .int 0])), (q9, .inl (cI, 6, .inl (fun _ => 0))), (q10, .inl (cI, 6, .inl (fun _ => 0))), (q11, .inl (cI, 4, .inl (fun _ => 0))), (q12, .inr (5, [.ref q13, .ref q14, .int 0, .int 0])), (q13, .inl (cI, 20, .inl (fun _ => 0))), (q14, .inl (cI, 6, .inl (fun _ => 0))), (q15, .inr (1, [.ref q16, .ref q17, .ref q18, .ref q19, .ref q20, .int 0, .int 0, .int 0, .int 0])), (q16, .inl (cI, 5, .inl (fun _ => 0))), (q17, .inl (cI, 5, .inl (fun _ => 0))), (q18, .inl (cI, 6, .inl (fun _ => 0))), (q19, .inl (cI, 6, .inl (fun _ => 0))), (q20, .inl (cI, 6, .inl (fun _ => 0))), (q21, .inr (1, [.ref q22, .ref q23, .ref q24, .ref q25, .ref q26, .int 0, .int 0, .int 0, .int 0])), (q22, .inl (cI, 5, .inl (fun _ => 0))), (q23, .inl (cI, 5, .inl (fun _ => 0))), (q24, .inl (cI, 6, .inl (fun _ => 0))), (q25, .inl (cI, 6, .inl (fun _ => 0))), (q26, .inl (cI, 6, .inl (fun _ => 0))), (q27, .inr (4, [.ref q28, .int 0, .int 0, .int 0])), (q28, .inl (cI, 60, .inl (fun _ => 0))), (q29, .inr (4, [.ref q30, .int 0, .int 0, .int 0])), (q30, .inl (cI, 60, .inl (fun _ => 0))), (q31, .inr (4, [.ref q32, .int 0, .int 0, .int 0])), (q32, .inl (cI, 60, .inl (fun _ => 0))), (q33, .inr (4, [.ref q34, .int 0, .int 0, .int 0])), (q34, .inl (cI, 60, .inl (fun _ => 0))), (m0, .inr (8, [.int 0, .int 0, .ref r0, .ref r1, .ref r2, .int 0, .int 0, .int 0, .int 0, .ref r3, .ref r4, .ref r5, .ref r6, .ref r7, .int 0, .int 0, .int 0, .int 0, .int 0, .ref r8, .ref r9, .ref r10, .ref r11, .ref r12, .ref r13, .ref r14, .ref r15, .int 0, .ref r16, .ref r17, .ref r18])), (r0, .inl (cI, 4, .inl (upd (upd (upd (upd (fun _ => 0) (0 : Int32).toNatClampNeg (-9)) (1 : Int32).toNatClampNeg (-9)) (2 : Int32).toNatClampNeg (-9)) (3 : Int32).toNatClampNeg (-9)))), (r1, .inl (cI, 4, .inl (fun _ => 0))), (r2, .inl (cI, 240, .inl (fun _ => 0))), (r3, .inl (cI, 5, .inl (fun _ => 0))), (r4, .inl (cI, 5, .inl (fun _ => 0))), (r5, .inl (cI, 6, .inl (fun _ => 0))), (r6, .inl (cI, 6, .inl (fun _ => 0))), (r7, .inl (cI, 6, .inl (fun _ => 0))), (r8, .inl (cI, 5, .inl (fun _ => 0))), (r9, .inl (cI, 5, .inl (fun _ => 0))), (r10, .inl (cI, 6, .inl (fun _ => 0))), (r11, .inl (cI, 6, .inl (fun _ => 0))), (r12, .inl (cI, 6, .inl (fun _ => 0))), (r13, .inl (cI, 6, .inl (fun _ => 0))), (r14, .inl (cI, 6, .inl (fun _ => 0))), (r15, .inl (cI, 6, .inl (fun _ => 0))), (r16, .inl (cI, 8, .inl (fun _ => 0))), (r17, .inl (cI, 8, .inl (fun _ => 0))), (r18, .inl (cI, 8, .inl (fun _ => 0)))] H) (hD : va_D A [(h0, .inr (7, [.ref q0, .ref q1, .ref q2, .ref q6, .ref q8, .ref q12, .ref q15, .ref q21, .int 0, .int 0])), (q0, .inl (cS, 4, .inr (.inr (.inr (.inr (va_up (va_up (va_up (va_up (fun _ => none) (0 : Int32).toNatClampNeg (some q27)) (1 : Int32).toNatClampNeg (some q29)) (2 : Int32).toNatClampNeg (some q31)) (3 : Int32).toNatClampNeg (some q33))))))), (q1, .inr (6, [.null, .null, .int 0, .int 0, .int 0])), (q2, .inr (3, [.ref q3, .ref q4, .ref q5, .int 0])), (q3, .inl (cI, 8, .inl (fun _ => 0))), (q4, .inl (cI, 8, .inl (fun _ => 0))), (q5, .inl (cI, 8, .inl (fun _ => 0))), (q6, .inr (2, [.ref q7])), (q7, .inl (cI, 6, .inl (fun _ => 0))), (q8, .inr (0, [.ref q9, .int 0, .ref q10, .ref q11, .null, .int 0])), (q9, .inl (cI, 6, .inl (fun _ => 0))), (q10, .inl (cI, 6, .inl (fun _ => 0))), (q11, .inl (cI, 4, .inl (fun _ => 0))), (q12, .inr (5, [.ref q13, .ref q14, .int 0, .int 0])), (q13, .inl (cI, 20, .inl (fun _ => 0))), (q14, .inl (cI, 6, .inl (fun _ => 0))), (q15, .inr (1, [.ref q16, .ref q17, .ref q18, .ref q19, .ref q20, .int 0, .int 0, .int 0, .int 0])), (q16, .inl (cI, 5, .inl (fun _ => 0))), (q17, .inl (cI, 5, .inl (fun _ => 0))), (q18, .inl (cI, 6, .inl (fun _ => 0))), (q19, .inl (cI, 6, .inl (fun _ => 0))), (q20, .inl (cI, 6, .inl (fun _ => 0))), (q21, .inr (1, [.ref q22, .ref q23, .ref q24, .ref q25, .ref q26, .int 0, .int 0, .int 0, .int 0])), (q22, .inl (cI, 5, .inl (fun _ => 0))), (q23, .inl (cI, 5, .inl (fun _ => 0))), (q24, .inl (cI, 6, .inl (fun _ => 0))), (q25, .inl (cI, 6, .inl (fun _ => 0))), (q26, .inl (cI, 6, .inl (fun _ => 0))), (q27, .inr (4, [.ref q28, .int 0, .int 0, .int 0])), (q28, .inl (cI, 60, .inl (fun _ => 0))), (q29, .inr (4, [.ref q30, .int 0, .int 0, .int 0])), (q30, .inl (cI, 60, .inl (fun _ => 0))), (q31, .inr (4, [.ref q32, .int 0, .int 0, .int 0])), (q32, .inl (cI, 60, .inl (fun _ => 0))), (q33, .inr (4, [.ref q34, .int 0, .int 0, .int 0])), (q34, .inl (cI, 60, .inl (fun _ => 0))), (m0, .inr (8, [.int 0, .int 0, .ref r0, .ref r1, .ref r2, .int 0, .int 0, .int 0, .int 0, .ref r3, .ref r4, .ref r5, .ref r6, .ref r7, .int 0, .int 0, .int 0, .int 0, .int 0, .ref r8, .ref r9, .ref r10, .ref r11, .ref r12, .ref r13, .ref r14, .ref r15, .int 0, .ref r16, .ref r17, .ref r18])), (r0, .inl (cI, 4, .inl (upd (upd (upd (upd (fun _ => 0) (0 : Int32).toNatClampNeg (-9)) (1 : Int32).toNatClampNeg (-9)) (2 : Int32).toNatClampNeg (-9)) (3 : Int32).toNatClampNeg (-9)))), (r1, .inl (cI, 4, .inl (fun _ => 0))), (r2, .inl (cI, 240, .inl (fun _ => 0))), (r3, .inl (cI, 5, .inl (fun _ => 0))), (r4, .inl (cI, 5, .inl (fun _ => 0))), (r5, .inl (cI, 6, .inl (fun _ => 0))), (r6, .inl (cI, 6, .inl (fun _ => 0))), (r7, .inl (cI, 6, .inl (fun _ => 0))), (r8, .inl (cI, 5, .inl (fun _ => 0))), (r9, .inl (cI, 5, .inl (fun _ => 0))), (r10, .inl (cI, 6, .inl (fun _ => 0))), (r11, .inl (cI, 6, .inl (fun _ => 0))), (r12, .inl (cI, 6, .inl (fun _ => 0))), (r13, .inl (cI, 6, .inl (fun _ => 0))), (r14, .inl (cI, 6, .inl (fun _ => 0))), (r15, .inl (cI, 6, .inl (fun _ => 0))), (r16, .inl (cI, 8, .inl (fun _ => 0))), (r17, .inl (cI, 8, .inl (fun _ => 0))), (r18, .inl (cI, 8, .inl (fun _ => 0)))]) : ∃ ad : Nat → Nat, jx_inj ad ∧ (∀ k, k < 56 → A (ad k)) ∧ ad 0 = h0 ∧ ad 36 = m0 ∧ va_P D vwCl (jx_w ad cI cS jx_M0) H := by
  refine ⟨_, jx_ad_inj hD rfl, jx_ad_in hD rfl, rfl, rfl, fun k q hk => ?_⟩
  obtain ⟨h56, rfl⟩ := jx_w_inv hk
  match k, h56 with
  | 0, _ => rw [jx_e0]; exact hP 0 _ rfl
  | 1, _ =>
    have h := hP 1 _ rfl
    show H[q0]? = some (vp_cell cS (4, .inr (.inr (.inr (.inr _)))))
    have h : H[q0]? = some (vp_cell cS (4, .inr (.inr (.inr (.inr _))))) := h
    rw [h, vp_cell_q, vp_cell_q]
    refine congrArg some (jx_arrV (fun j hj => ?_))
    rcases (show j = 0 ∨ j = 1 ∨ j = 2 ∨ j = 3 by omega) with rfl | rfl | rfl | rfl <;> rfl
  | 2, _ => rw [jx_e2]; exact hP 2 _ rfl
  | 3, _ => rw [jx_e3]; exact hP 3 _ rfl
  | 4, _ => rw [jx_eZ (n := 8) (by decide) (by decide) (by decide)]; exact hP 4 _ rfl
  | 5, _ => rw [jx_eZ (n := 8) (by decide) (by decide) (by decide)]; exact hP 5 _ rfl
  | 6, _ => rw [jx_eZ (n := 8) (by decide) (by decide) (by decide)]; exact hP 6 _ rfl
  | 7, _ => rw [jx_e7]; exact hP 7 _ rfl
  | 8, _ => rw [jx_eZ (n := 6) (by decide) (by decide) (by decide)]; exact hP 8 _ rfl
  | 9, _ => rw [jx_e9]; exact hP 9 _ rfl
  | 10, _ => rw [jx_eZ (n := 6) (by decide) (by decide) (by decide)]; exact hP 10 _ rfl
  | 11, _ => rw [jx_eZ (n := 6) (by decide) (by decide) (by decide)]; exact hP 11 _ rfl
  | 12, _ => rw [jx_eZ (n := 4) (by decide) (by decide) (by decide)]; exact hP 12 _ rfl
  | 13, _ => rw [jx_e13]; exact hP 13 _ rfl
  | 14, _ => rw [jx_eZ (n := 20) (by decide) (by decide) (by decide)]; exact hP 14 _ rfl
  | 15, _ => rw [jx_eZ (n := 6) (by decide) (by decide) (by decide)]; exact hP 15 _ rfl
  | 16, _ => rw [jx_e16]; exact hP 16 _ rfl
  | 17, _ => rw [jx_eZ (n := 5) (by decide) (by decide) (by decide)]; exact hP 17 _ rfl
  | 18, _ => rw [jx_eZ (n := 5) (by decide) (by decide) (by decide)]; exact hP 18 _ rfl
  | 19, _ => rw [jx_eZ (n := 6) (by decide) (by decide) (by decide)]; exact hP 19 _ rfl
  | 20, _ => rw [jx_eZ (n := 6) (by decide) (by decide) (by decide)]; exact hP 20 _ rfl
  | 21, _ => rw [jx_eZ (n := 6) (by decide) (by decide) (by decide)]; exact hP 21 _ rfl
  | 22, _ => rw [jx_e22]; exact hP 22 _ rfl
  | 23, _ => rw [jx_eZ (n := 5) (by decide) (by decide) (by decide)]; exact hP 23 _ rfl
  | 24, _ => rw [jx_eZ (n := 5) (by decide) (by decide) (by decide)]; exact hP 24 _ rfl
  | 25, _ => rw [jx_eZ (n := 6) (by decide) (by decide) (by decide)]; exact hP 25 _ rfl
  | 26, _ => rw [jx_eZ (n := 6) (by decide) (by decide) (by decide)]; exact hP 26 _ rfl
  | 27, _ => rw [jx_eZ (n := 6) (by decide) (by decide) (by decide)]; exact hP 27 _ rfl
  | 28, _ => rw [jx_e28]; exact hP 28 _ rfl
  | 29, _ => rw [jx_eZ (n := 60) (by decide) (by decide) (by decide)]; exact hP 29 _ rfl
  | 30, _ => rw [jx_e30]; exact hP 30 _ rfl
  | 31, _ => rw [jx_eZ (n := 60) (by decide) (by decide) (by decide)]; exact hP 31 _ rfl
  | 32, _ => rw [jx_e32]; exact hP 32 _ rfl
  | 33, _ => rw [jx_eZ (n := 60) (by decide) (by decide) (by decide)]; exact hP 33 _ rfl
  | 34, _ => rw [jx_e34]; exact hP 34 _ rfl
  | 35, _ => rw [jx_eZ (n := 60) (by decide) (by decide) (by decide)]; exact hP 35 _ rfl
  | 36, _ => rw [jx_e36]; exact hP 36 _ rfl
  | 37, _ =>
    have h := hP 37 _ rfl
    rw [jx_ce_arr (by decide)]
    show H[r0]? = some (vp_cell cI (4, .inl (jx_M0 37)))
    have h : H[r0]? = some (vp_cell cI (4, .inl _)) := h
    rw [h, vp_cell_i, vp_cell_i]
    refine congrArg some (jx_arrV (fun j hj => ?_))
    rcases (show j = 0 ∨ j = 1 ∨ j = 2 ∨ j = 3 by omega) with rfl | rfl | rfl | rfl <;> exact congrArg Value.int (by decide)
  | 38, _ => rw [jx_eZ (n := 4) (by decide) (by decide) (by decide)]; exact hP 38 _ rfl
  | 39, _ => rw [jx_eZ (n := 240) (by decide) (by decide) (by decide)]; exact hP 39 _ rfl
  | 40, _ => rw [jx_eZ (n := 5) (by decide) (by decide) (by decide)]; exact hP 40 _ rfl
  | 41, _ => rw [jx_eZ (n := 5) (by decide) (by decide) (by decide)]; exact hP 41 _ rfl
  | 42, _ => rw [jx_eZ (n := 6) (by decide) (by decide) (by decide)]; exact hP 42 _ rfl
  | 43, _ => rw [jx_eZ (n := 6) (by decide) (by decide) (by decide)]; exact hP 43 _ rfl
  | 44, _ => rw [jx_eZ (n := 6) (by decide) (by decide) (by decide)]; exact hP 44 _ rfl
  | 45, _ => rw [jx_eZ (n := 5) (by decide) (by decide) (by decide)]; exact hP 45 _ rfl
  | 46, _ => rw [jx_eZ (n := 5) (by decide) (by decide) (by decide)]; exact hP 46 _ rfl
  | 47, _ => rw [jx_eZ (n := 6) (by decide) (by decide) (by decide)]; exact hP 47 _ rfl
  | 48, _ => rw [jx_eZ (n := 6) (by decide) (by decide) (by decide)]; exact hP 48 _ rfl
  | 49, _ => rw [jx_eZ (n := 6) (by decide) (by decide) (by decide)]; exact hP 49 _ rfl
  | 50, _ => rw [jx_eZ (n := 6) (by decide) (by decide) (by decide)]; exact hP 50 _ rfl
  | 51, _ => rw [jx_eZ (n := 6) (by decide) (by decide) (by decide)]; exact hP 51 _ rfl
  | 52, _ => rw [jx_eZ (n := 6) (by decide) (by decide) (by decide)]; exact hP 52 _ rfl
  | 53, _ => rw [jx_eZ (n := 8) (by decide) (by decide) (by decide)]; exact hP 53 _ rfl
  | 54, _ => rw [jx_eZ (n := 8) (by decide) (by decide) (by decide)]; exact hP 54 _ rfl
  | 55, _ => rw [jx_eZ (n := 8) (by decide) (by decide) (by decide)]; exact hP 55 _ rfl
  | k + 56, h => exact absurd h (by omega)
