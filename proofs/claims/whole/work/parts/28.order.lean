/-! an order: both look for the first, the class by recursion, the reference going back and forth -/
def tp_lp (ok : Nat → Bool) (f : Nat → Option (List Nat)) : Nat → Nat → Option (List Nat)
  | _, 0 => none
  | c, n + 1 => if ok c = true then (match f c with
    | some l => some (c :: l)
    | none => tp_lp ok f (c + 1) n) else tp_lp ok f (c + 1) n
def tp_sr (s : tp_S) (m : Nat) : Nat → Option Nat → Nat → Option (List Nat)
  | 0, _, _ => some []
  | r + 1, prev, st => tp_lp (fun c => tp_fit s m prev st c) (fun c => tp_sr s m r (some c) (st ||| 2 ^ c)) 0 (s 0 1)
theorem tp_lp_len {ok : Nat → Bool} {f : Nat → Option (List Nat)} {r : Nat} (h : ∀ c l, f c = some l → l.length = r) : ∀ n c l, tp_lp ok f c n = some l → l.length = r + 1
  | 0, c, l, e => by cases e
  | n + 1, c, l, e => by
    rw [tp_lp] at e
    split at e
    · split at e
      · next l' hl => cases e; rw [List.length_cons, h c l' hl]
      · exact tp_lp_len h n (c + 1) l e
    · exact tp_lp_len h n (c + 1) l e
theorem tp_sr_len {s : tp_S} {m : Nat} : ∀ r prev st l, tp_sr s m r prev st = some l → l.length = r
  | 0, _, _, l, e => by cases e; rfl
  | r + 1, prev, st, l, e => tp_lp_len (fun c l' h => tp_sr_len r (some c) _ l' h) _ _ l e
section TPR
variable {d : Nat} {s : tp_S}
abbrev tp_hpr (s : tp_S) (M : jx_M) (w place : Nat) (prev : Option Nat) : Prop := (place = 0 ∧ prev = none) ∨ ∃ p, p < s 0 1 ∧ 0 < place ∧ prev = some p ∧ M w (place - 1) = nI p
/-- what a search that found l, or nothing, leaves in the row w -/
abbrev tp_kS (w place : Nat) (R : Option (List Nat)) (M : jx_M) (X : jx_M → Prop) : Prop := ∀ (l : List Nat) (M' : jx_M), R = some l → (∀ a b, a ≠ w → M' a b = M a b) → (∀ j, j < place → M' w j = M w j) → (∀ j v, l[j]? = some v → M' w (place + j) = nI v) → X M'
abbrev tp_kN (w place : Nat) (R : Option (List Nat)) (M : jx_M) (X : jx_M → Prop) : Prop := ∀ (M' : jx_M), R = none → (∀ a b, a ≠ w → M' a b = M a b) → (∀ j, j < place → M' w j = M w j) → X M'
theorem tp_fill_l (hr : tp_rg s) {m r place st : Nat} {prev : Option Nat} (hm : m ≤ 9) (hpl : place + (r + 1) = s 0 1) (hst : st < 64)
    (H : ∀ (c : Nat) (M1 : jx_M) (q : Int32 → jx_M → Prop), c < s 0 1 → tp_F M1 s m → M1 14 place = nI c → tp_kS 14 (place + 1) (tp_sr s m r (some c) (st ||| 2 ^ c)) M1 (q 1) → tp_kN 14 (place + 1) (tp_sr s m r (some c) (st ||| 2 ^ c)) M1 (q 0) → jx_I (d + r + 2) mX5_fillFrom [.ref 13, .int (nI (place + 1)), .int (nI (st ||| 2 ^ c))] M1 q) {Q : jx_Po} :
    ∀ n c (M : jx_M), c + n = s 0 1 → tp_F M s m → tp_hpr s M 14 place prev → tp_kS 14 place (tp_lp (fun c => tp_fit s m prev st c) (fun c => tp_sr s m r (some c) (st ||| 2 ^ c)) c n) M (fun N => Q [.int 1] N) → tp_kN 14 place (tp_lp (fun c => tp_fit s m prev st c) (fun c => tp_sr s m r (some c) (st ||| 2 ^ c)) c n) M (fun N => Q [.int 0] N) →
      jx_Ev (d + r + 3) mX5_fillFrom 18 [some (.ref 13), some (.int (nI place)), some (.int (nI st)), some (.int (nI c))] [] M Q
  | 0, c, M, h, hF, hpr, kS, kN => by
    have h : c = s 0 1 := h
    have := kN M rfl (fun _ _ _ => rfl) (fun _ _ => rfl)
    obtain ⟨r1, r2, r3, r4, r5, r6⟩ := id hr
    rw [eX5_fillFrom_18]
    simp (disch := first | assumption | omega | decide) only [jx_qI_a, jx_qV_a, jx_qL_a, jn_lt, jn_le, jn_eq, jn_L, jn_A, jn_N, jn_LL, jn_add, jn_mul, jn_sub, jn_cl, jn_vin, jn_shl1, jn_shr, jn_or, jn_l_or0, jn_and1, jo_ltT, jo_ltF, jo_leT, jo_leF, jo_eqT, jo_eqF, true_or, or_true, true_and, and_true, false_or, or_false, false_and, and_false, if_true, if_false, not_true_eq_false, not_false_eq_true, jx_tab, eX5_fillFrom, hF.1, this]
  | n + 1, c, M, h, hF, hpr, kS, kN => by
    have hc : c < s 0 1 := by omega
    have r2 := hr.2.1
    have g := fun d q => tp_fits (d := d) (q := q) (place := place) (prev := prev) hr hm hF hc (by omega) (show st < 1000 by omega) hpr
    rw [eX5_fillFrom_18]
    by_cases hf : tp_fit s m prev st c = true
    · rw [if_pos hf] at g
      have hF1 : tp_F (jx_up M 14 place (nI c)) s m := tp_F_fr hF (fun a b z => by rw [jx_upE, if_neg (by omega)])
      simp (disch := first | assumption | omega | decide) only [jx_qI_a, jx_qV_a, jx_qL_a, jn_lt, jn_le, jn_eq, jn_L, jn_A, jn_N, jn_LL, jn_add, jn_mul, jn_sub, jn_cl, jn_vin, jn_shl1, jn_shr, jn_or, jn_l_or0, jn_and1, jo_ltT, jo_ltF, jo_leT, jo_leF, jo_eqT, jo_eqF, true_or, or_true, true_and, and_true, false_or, or_false, false_and, and_false, if_true, if_false, not_true_eq_false, not_false_eq_true, jx_tab, eX5_fillFrom, hF.1, g]
      refine H c _ _ hc hF1 (by simp [jx_upE]) (fun l M' e1 e2 e3 e4 => ?_) (fun M' e1 e2 e3 => ?_)
      · have hq := kS (c :: l) M' (by simp only [tp_lp, hf, if_true, e1]) (fun a b z => by rw [e2 a b z, jx_upE, if_neg (by omega)]) (fun j hj => by rw [e3 j (by omega), jx_upE, if_neg (by omega)]) (fun j v hv => by
          cases j with
          | zero =>
            rw [List.getElem?_cons_zero] at hv
            cases hv
            rw [Nat.add_zero, e3 place (by omega)]
            simp [jx_upE]
          | succ j =>
            rw [List.getElem?_cons_succ] at hv
            rw [show place + (j + 1) = place + 1 + j by omega]
            exact e4 j v hv)
        simp (disch := first | assumption | omega | decide) only [jn_LL, if_true, if_false, hq]
      · have hlp : tp_lp (fun c => tp_fit s m prev st c) (fun c => tp_sr s m r (some c) (st ||| 2 ^ c)) c (n + 1) = tp_lp (fun c => tp_fit s m prev st c) (fun c => tp_sr s m r (some c) (st ||| 2 ^ c)) (c + 1) n := by
          rw [tp_lp]
          simp only [hf, if_true, e1]
        rw [hlp] at kS kN
        have ih := tp_fill_l hr hm hpl hst H (Q := Q) (prev := prev) n (c + 1) M' (by omega) (tp_F_fr hF1 (fun a b z => e2 a b (by omega))) (by
            rcases hpr with z | ⟨p, p1, p2, p3, p4⟩
            · exact Or.inl z
            · exact Or.inr ⟨p, p1, p2, p3, by rw [e3 _ (by omega), jx_upE, if_neg (by omega)]; exact p4⟩) (fun l N f1 f2 f3 f4 => kS l N f1 (fun a b z => by rw [f2 a b z, e2 a b z, jx_upE, if_neg (by omega)]) (fun j hj => by rw [f3 j hj, e3 j (by omega), jx_upE, if_neg (by omega)]) f4) (fun N f1 f2 f3 => kN N f1 (fun a b z => by rw [f2 a b z, e2 a b z, jx_upE, if_neg (by omega)]) (fun j hj => by rw [f3 j hj, e3 j (by omega), jx_upE, if_neg (by omega)]))
        simp (disch := first | assumption | omega | decide) only [jn_LL, if_true, if_false]
        exact ih
    · rw [if_neg hf] at g
      have hlp : tp_lp (fun c => tp_fit s m prev st c) (fun c => tp_sr s m r (some c) (st ||| 2 ^ c)) c (n + 1) = tp_lp (fun c => tp_fit s m prev st c) (fun c => tp_sr s m r (some c) (st ||| 2 ^ c)) (c + 1) n := by
        rw [tp_lp, if_neg hf]
      rw [hlp] at kS kN
      have ih := tp_fill_l hr hm hpl hst H (Q := Q) (prev := prev) n (c + 1) M (by omega) hF hpr kS kN
      simp (disch := first | assumption | omega | decide) only [jx_qI_a, jx_qV_a, jx_qL_a, jn_lt, jn_le, jn_eq, jn_L, jn_A, jn_N, jn_LL, jn_add, jn_mul, jn_sub, jn_cl, jn_vin, jn_shl1, jn_shr, jn_or, jn_l_or0, jn_and1, jo_ltT, jo_ltF, jo_leT, jo_leF, jo_eqT, jo_eqF, true_or, or_true, true_and, and_true, false_or, or_false, false_and, and_false, if_true, if_false, not_true_eq_false, not_false_eq_true, jx_tab, eX5_fillFrom, hF.1, g]
      exact ih
theorem tp_fill (hr : tp_rg s) {m : Nat} (hm : m ≤ 9) : ∀ r place st prev (M : jx_M) (q : Int32 → jx_M → Prop), place + r = s 0 1 → st < 64 → tp_F M s m → tp_hpr s M 14 place prev → tp_kS 14 place (tp_sr s m r prev st) M (q 1) → tp_kN 14 place (tp_sr s m r prev st) M (q 0) → jx_I (d + r + 2) mX5_fillFrom [.ref 13, .int (nI place), .int (nI st)] M q
  | 0, place, st, prev, M, q, h, hst, hF, hpr, kS, kN => by
    have h : place = s 0 1 := h
    have := kS [] M rfl (fun _ _ _ => rfl) (fun _ _ => rfl) (fun j v hv => by simp at hv)
    obtain ⟨r1, r2, r3, r4, r5, r6⟩ := id hr
    simp (disch := first | assumption | omega | decide) only [jx_qI_a, jx_qV_a, jx_qL_a, jn_lt, jn_le, jn_eq, jn_L, jn_A, jn_N, jn_LL, jn_add, jn_mul, jn_sub, jn_cl, jn_vin, jn_shl1, jn_shr, jn_or, jn_l_or0, jn_and1, jo_ltT, jo_ltF, jo_leT, jo_leF, jo_eqT, jo_eqF, true_or, or_true, true_and, and_true, false_or, or_false, false_and, and_false, if_true, if_false, not_true_eq_false, not_false_eq_true, jx_tab, kX5_fillFrom, eX5_fillFrom, hF.1, this]
  | r + 1, place, st, prev, M, q, h, hst, hF, hpr, kS, kN => by
    have r2 := hr.2.1
    have g := tp_fill_l (d := d) hr (r := r) (place := place) (st := st) (prev := prev) hm (by omega) hst (fun c M1 q' hc hF1 h14 k1 k0 => tp_fill hr hm r (place + 1) (st ||| 2 ^ c) (some c) M1 q' (by omega) (tp_or64 hst (by omega)) hF1 (Or.inr ⟨c, hc, by omega, rfl, by rw [Nat.add_sub_cancel]; exact h14⟩) k1 k0) (Q := jx_qI q) (s 0 1) 0 M (Nat.zero_add _) hF hpr (fun l M' e1 e2 e3 e4 => jx_qI_a.mpr (kS l M' e1 e2 e3 e4)) (fun M' e1 e2 e3 => jx_qI_a.mpr (kN M' e1 e2 e3))
    simp (disch := first | assumption | omega | decide) only [jx_qI_a, jx_qV_a, jx_qL_a, jn_lt, jn_le, jn_eq, jn_L, jn_A, jn_N, jn_LL, jn_add, jn_mul, jn_sub, jn_cl, jn_vin, jn_shl1, jn_shr, jn_or, jn_l_or0, jn_and1, jo_ltT, jo_ltF, jo_leT, jo_leF, jo_eqT, jo_eqF, true_or, or_true, true_and, and_true, false_or, or_false, false_and, and_false, if_true, if_false, not_true_eq_false, not_false_eq_true, jx_tab, kX5_fillFrom, eX5_fillFrom, hF.1]
    exact g
/-- the reference -/
theorem tq_may (hr : tp_rg s) {M : jx_M} (hD : tp_D M s) {m k c st : Nat} {prev : Option Nat} (hm : m ≤ 9) (hk : k < 6) (hc : c < s 0 1) (hcur : M 52 k = nI c) (hrow : ∀ j, j < k → ∃ v, v < s 0 1 ∧ M 52 j = nI v) (hpr : tp_hpr s M 52 k prev) (hst : ∀ x, x < s 0 1 → (st / 2 ^ x % 2 = 1 ↔ ∃ j, j < k ∧ M 52 j = nI x)) {Q : jx_Po} : ∀ t j, j + t = k → (∀ i, i < j → M 52 i ≠ nI c) → (jx_Ev (d + 2) mX8_mayStand 2 [some (.ref 36), some (.int (nI k)), some (.int (nI m)), some (.int (nI j))] [] M Q ↔ Q [.int (if tp_fit s m prev st c = true then 1 else 0)] M)
  | 0, j, h, hne => by
    have h : j = k := h
    subst h
    have hb2 : st / 2 ^ c % 2 < 2 := Nat.mod_lt _ (by decide)
    have h0 : st / 2 ^ c % 2 = 0 := by
      have : ¬ st / 2 ^ c % 2 = 1 := fun z => by
        obtain ⟨i, h1, h2⟩ := (hst c hc).mp z
        exact hne i h1 h2
      omega
    rw [eX8_mayStand_2]
    rcases hpr with ⟨rfl, rfl⟩ | ⟨p, hp1, hp2, rfl, hp3⟩
    · have e : tp_fit s m none st c = true := by simp [tp_fit, h0]
      rw [e, if_pos rfl]
      simp (disch := first | assumption | omega | decide) only [jx_qI_a, jx_qV_a, jx_qL_a, jn_lt, jn_le, jn_eq, jn_L, jn_A, jn_N, jn_LL, jn_add, jn_mul, jn_sub, jn_cl, jn_vin, jn_shl1, jn_shr, jn_or, jn_l_or0, jn_and1, jo_ltT, jo_ltF, jo_leT, jo_leF, jo_eqT, jo_eqF, true_or, or_true, true_and, and_true, false_or, or_false, false_and, and_false, if_true, if_false, not_true_eq_false, not_false_eq_true, jx_tab, eX8_mayStand]
    · have g := fun d q => tq_isApart (d := d) (q := q) hr hD hp1 hc hm
      by_cases hg : s 0 3 ≤ tp_df (tp_lo s p m) (tp_lo s c m)
      · have e : tp_fit s m (some p) st c = true := by
          rw [tp_df_c] at hg
          simp [tp_fit, h0, hg]
        rw [if_pos hg] at g
        rw [e, if_pos rfl]
        simp (disch := first | assumption | omega | decide) only [jx_qI_a, jx_qV_a, jx_qL_a, jn_lt, jn_le, jn_eq, jn_L, jn_A, jn_N, jn_LL, jn_add, jn_mul, jn_sub, jn_cl, jn_vin, jn_shl1, jn_shr, jn_or, jn_l_or0, jn_and1, jo_ltT, jo_ltF, jo_leT, jo_leF, jo_eqT, jo_eqF, true_or, or_true, true_and, and_true, false_or, or_false, false_and, and_false, if_true, if_false, not_true_eq_false, not_false_eq_true, jx_tab, eX8_mayStand, hp3, hcur, g]
      · have e : tp_fit s m (some p) st c = false := by
          rw [tp_df_c] at hg
          simp [tp_fit, h0, hg]
        rw [if_neg hg] at g
        rw [e, if_neg (by decide)]
        simp (disch := first | assumption | omega | decide) only [jx_qI_a, jx_qV_a, jx_qL_a, jn_lt, jn_le, jn_eq, jn_L, jn_A, jn_N, jn_LL, jn_add, jn_mul, jn_sub, jn_cl, jn_vin, jn_shl1, jn_shr, jn_or, jn_l_or0, jn_and1, jo_ltT, jo_ltF, jo_leT, jo_leF, jo_eqT, jo_eqF, true_or, or_true, true_and, and_true, false_or, or_false, false_and, and_false, if_true, if_false, not_true_eq_false, not_false_eq_true, jx_tab, eX8_mayStand, hp3, hcur, g]
  | t + 1, j, h, hne => by
    obtain ⟨v, hv, ev⟩ := hrow j (by omega)
    have r2 := hr.2.1
    rw [eX8_mayStand_2]
    by_cases hvc : v = c
    · have hb : st / 2 ^ c % 2 = 1 := (hst c hc).mpr ⟨j, by omega, by rw [ev, hvc]⟩
      have e : tp_fit s m prev st c = false := by simp [tp_fit, hb]
      rw [e, if_neg (by decide)]
      simp (disch := first | assumption | omega | decide) only [jx_qI_a, jx_qV_a, jx_qL_a, jn_lt, jn_le, jn_eq, jn_L, jn_A, jn_N, jn_LL, jn_add, jn_mul, jn_sub, jn_cl, jn_vin, jn_shl1, jn_shr, jn_or, jn_l_or0, jn_and1, jo_ltT, jo_ltF, jo_leT, jo_leF, jo_eqT, jo_eqF, true_or, or_true, true_and, and_true, false_or, or_false, false_and, and_false, if_true, if_false, not_true_eq_false, not_false_eq_true, jx_tab, eX8_mayStand, ev, hcur]
    · have ih := tq_may hr hD hm hk hc hcur hrow hpr hst (Q := Q) t (j + 1) (by omega) (fun i hi => by
        by_cases z : i = j
        · subst z
          rw [ev]
          intro w
          exact hvc ((jn_eq (by omega) (by omega)).mp w)
        · exact hne i (by omega))
      simp (disch := first | assumption | omega | decide) only [jx_qI_a, jx_qV_a, jx_qL_a, jn_lt, jn_le, jn_eq, jn_L, jn_A, jn_N, jn_LL, jn_add, jn_mul, jn_sub, jn_cl, jn_vin, jn_shl1, jn_shr, jn_or, jn_l_or0, jn_and1, jo_ltT, jo_ltF, jo_leT, jo_leF, jo_eqT, jo_eqF, true_or, or_true, true_and, and_true, false_or, or_false, false_and, and_false, if_true, if_false, not_true_eq_false, not_false_eq_true, jx_tab, eX8_mayStand, ev, hcur, ih]
/-- the row below k and the set of those in it -/
abbrev tp_pre (s : tp_S) (M : jx_M) (k st : Nat) (prev : Option Nat) : Prop := (∀ j, j < k → ∃ v, v < s 0 1 ∧ M 52 j = nI v) ∧ tp_hpr s M 52 k prev ∧ (∀ x, x < s 0 1 → (st / 2 ^ x % 2 = 1 ↔ ∃ j, j < k ∧ M 52 j = nI x)) ∧ st < 64
theorem tp_pre_fr {M M' : jx_M} {k st : Nat} {prev : Option Nat} (h : tp_pre s M k st prev) (e : ∀ j, j < k → M' 52 j = M 52 j) : tp_pre s M' k st prev := by
  obtain ⟨h1, h2, h3, h4⟩ := h
  refine ⟨fun j hj => by rw [e j hj]; exact h1 j hj, ?_, fun x hx => ?_, h4⟩
  · rcases h2 with z | ⟨p, p1, p2, p3, p4⟩
    · exact Or.inl z
    · exact Or.inr ⟨p, p1, p2, p3, by rw [e _ (by omega)]; exact p4⟩
  · rw [h3 x hx]
    constructor
    · rintro ⟨j, hj, w⟩; exact ⟨j, hj, by rw [e j hj]; exact w⟩
    · rintro ⟨j, hj, w⟩; exact ⟨j, hj, by rw [← e j hj]; exact w⟩
theorem tq_find_l (hr : tp_rg s) {m r k st : Nat} {prev : Option Nat} (hm : m ≤ 9) (hkr : k + (r + 1) = s 0 1) {Q : jx_Po}
    (H : ∀ (c : Nat) (M1 : jx_M), c < s 0 1 → tp_D M1 s → tp_pre s M1 (k + 1) (st ||| 2 ^ c) (some c) → (0 < r → M1 52 (k + 1) = -9) → tp_kS 52 (k + 1) (tp_sr s m r (some c) (st ||| 2 ^ c)) M1 (fun N => jx_Ev (d + 3) mX8_findOrder 10 [some (.ref 36), some (.int (nI m)), some (.int (nI (s 0 1)))] [] N Q) → tp_kN 52 (k + 1) (tp_sr s m r (some c) (st ||| 2 ^ c)) M1 (fun N => jx_Ev (d + 3) mX8_findOrder 10 [some (.ref 36), some (.int (nI m)), some (.int (nI k))] [] N Q) → jx_Ev (d + 3) mX8_findOrder 10 [some (.ref 36), some (.int (nI m)), some (.int (nI (k + 1)))] [] M1 Q) :
    ∀ n c (M : jx_M), c + n = s 0 1 → tp_D M s → tp_pre s M k st prev → (c = 0 ∧ M 52 k = -9 ∨ 0 < c ∧ M 52 k = nI (c - 1)) → tp_kS 52 k (tp_lp (fun c => tp_fit s m prev st c) (fun c => tp_sr s m r (some c) (st ||| 2 ^ c)) c n) M (fun N => jx_Ev (d + 3) mX8_findOrder 10 [some (.ref 36), some (.int (nI m)), some (.int (nI (s 0 1)))] [] N Q) → tp_kN 52 k (tp_lp (fun c => tp_fit s m prev st c) (fun c => tp_sr s m r (some c) (st ||| 2 ^ c)) c n) M (fun N => jx_Ev (d + 3) mX8_findOrder 10 [some (.ref 36), some (.int (nI m)), some (.int (jm k))] [] N Q) →
      jx_Ev (d + 3) mX8_findOrder 10 [some (.ref 36), some (.int (nI m)), some (.int (nI k))] [] M Q
  | 0, c, M, h, hD, hpre, hcur, kS, kN => by
    have h : c = s 0 1 := h
    have r2 := hr.2.1
    have ecur : M 52 k = nI (c - 1) := by
      rcases hcur with z | z
      · omega
      · exact z.2
    have hq := kN (jx_up M 52 k (nI (s 0 1))) rfl (fun a b z => by rw [jx_upE, if_neg (by omega)]) (fun j hj => by rw [jx_upE, if_neg (by omega)])
    have e1 : ∀ x, jx_up M 52 k x 52 k = x := fun x => by simp [jx_upE]
    have e2 : ∀ x, jx_up M 52 k x 36 6 = nI (s 0 1) := fun x => by rw [jx_upE, if_neg (by omega)]; exact hD.2.1
    have e3 : c - 1 + 1 = s 0 1 := by omega
    rw [eX8_findOrder_10]
    simp (disch := first | assumption | omega | decide) only [jx_qI_a, jx_qV_a, jx_qL_a, jn_lt, jn_le, jn_eq, jn_L, jn_A, jn_N, jn_LL, jn_add, jn_mul, jn_sub, jn_cl, jn_vin, jn_shl1, jn_shr, jn_or, jn_l_or0, jn_and1, jo_ltT, jo_ltF, jo_leT, jo_leF, jo_eqT, jo_eqF, true_or, or_true, true_and, and_true, false_or, or_false, false_and, and_false, if_true, if_false, not_true_eq_false, not_false_eq_true, jx_tab, eX8_findOrder, hD.2.1, ecur, e1, e2, e3, jm_dec, hq]
  | n + 1, c, M, h, hD, hpre, hcur, kS, kN => by
    have hc : c < s 0 1 := by omega
    have r2 := hr.2.1
    have hst := hpre.2.2.2
    have e1 : ∀ x, jx_up M 52 k x 52 k = x := fun x => by simp [jx_upE]
    have e2 : ∀ x, jx_up M 52 k x 36 6 = nI (s 0 1) := fun x => by rw [jx_upE, if_neg (by omega)]; exact hD.2.1
    have hD1 : tp_D (jx_up M 52 k (nI c)) s := tp_D_fr hD (fun b q1 q2 => by rw [jx_upE, if_neg (by omega)]) (fun a b q1 q2 => by rw [jx_upE, if_neg (by omega)])
    have hpre1 : tp_pre s (jx_up M 52 k (nI c)) k st prev := tp_pre_fr hpre (fun j hj => by rw [jx_upE, if_neg (by omega)])
    have gm := fun d q => tq_may (d := d) hr hD1 hm (show k < 6 by omega) hc (e1 _) hpre1.1 hpre1.2.1 hpre1.2.2.1 (Q := jx_qI q) k 0 (Nat.zero_add k) (fun i hi => by omega)
    have gm' : ∀ d q, jx_I (d + 2) mX8_mayStand [.ref 36, .int (nI k), .int (nI m)] (jx_up M 52 k (nI c)) q ↔ q (if tp_fit s m prev st c = true then 1 else 0) (jx_up M 52 k (nI c)) := fun d q => by
      have := gm d q
      rw [jx_qI_a] at this
      simp (disch := first | assumption | omega | decide) only [kX8_mayStand, eX8_mayStand]
      exact this
    -- the next number is put
    have hput : jx_Ev (d + 3) mX8_findOrder 70 [some (.ref 36), some (.int (nI m)), some (.int (nI k))] [] (jx_up M 52 k (nI c)) Q → jx_Ev (d + 3) mX8_findOrder 10 [some (.ref 36), some (.int (nI m)), some (.int (nI k))] [] M Q := by
      intro hgo
      have hiff : jx_Ev (d + 3) mX8_findOrder 10 [some (.ref 36), some (.int (nI m)), some (.int (nI k))] [] M Q ↔ jx_Ev (d + 3) mX8_findOrder 70 [some (.ref 36), some (.int (nI m)), some (.int (nI k))] [] (jx_up M 52 k (nI c)) Q := by
        rw [eX8_findOrder_10]
        rcases hcur with ⟨z1, z2⟩ | ⟨z1, z2⟩
        · subst z1
          have e3 : nI 0 = (0 : Int32) := (fa_lit 0).symm
          rw [e3]
          have e1' := e1 0
          have e2' := e2 0
          simp (disch := first | assumption | omega | decide) only [jx_qI_a, jx_qV_a, jx_qL_a, jn_lt, jn_le, jn_eq, jn_L, jn_A, jn_N, jn_LL, jn_add, jn_mul, jn_sub, jn_cl, jn_vin, jn_shl1, jn_shr, jn_or, jn_l_or0, jn_and1, jo_ltT, jo_ltF, jo_leT, jo_leF, jo_eqT, jo_eqF, true_or, or_true, true_and, and_true, false_or, or_false, false_and, and_false, if_true, if_false, not_true_eq_false, not_false_eq_true, jx_tab, eX8_findOrder, hD.2.1, z2, e1', e2']
        · have e3 : c - 1 + 1 = c := by omega
          simp (disch := first | assumption | omega | decide) only [jx_qI_a, jx_qV_a, jx_qL_a, jn_lt, jn_le, jn_eq, jn_L, jn_A, jn_N, jn_LL, jn_add, jn_mul, jn_sub, jn_cl, jn_vin, jn_shl1, jn_shr, jn_or, jn_l_or0, jn_and1, jo_ltT, jo_ltF, jo_leT, jo_leF, jo_eqT, jo_eqF, true_or, or_true, true_and, and_true, false_or, or_false, false_and, and_false, if_true, if_false, not_true_eq_false, not_false_eq_true, jx_tab, eX8_findOrder, hD.2.1, z2, e1, e2, e3]
      exact hiff.mpr hgo
    apply hput
    by_cases hf : tp_fit s m prev st c = true
    · have gm2 := fun d q => gm' d q
      rw [if_pos hf] at gm2
      have hbit : st / 2 ^ c % 2 = 0 := by
        unfold tp_fit at hf
        rw [Bool.and_eq_true, decide_eq_true_eq] at hf
        exact hf.1
      have hpre2 : ∀ N : jx_M, (∀ j, j < k + 1 → N 52 j = jx_up M 52 k (nI c) 52 j) → tp_pre s N (k + 1) (st ||| 2 ^ c) (some c) := by
        intro N eN
        refine ⟨fun j hj => ?_, Or.inr ⟨c, hc, by omega, rfl, by rw [Nat.add_sub_cancel, eN k (by omega), e1]⟩, fun x hx => ?_, tp_or64 hst (by omega)⟩
        · by_cases z : j = k
          · subst z; exact ⟨c, hc, by rw [eN _ (by omega), e1]⟩
          · rw [eN j hj]; exact hpre1.1 j (by omega)
        · rw [tp_b_iff, fb_bit_set, Bool.or_eq_true, decide_eq_true_eq, ← tp_b_iff, hpre1.2.2.1 x hx]
          constructor
          · rintro (⟨j, hj, w⟩ | w)
            · exact ⟨j, by omega, by rw [eN j (by omega)]; exact w⟩
            · exact ⟨k, by omega, by rw [eN k (by omega), e1, w]⟩
          · rintro ⟨j, hj, w⟩
            by_cases z : j = k
            · subst z
              rw [eN _ (by omega), e1] at w
              exact Or.inr ((jn_eq (by omega) (by omega)).mp w).symm
            · exact Or.inl ⟨j, by omega, by rw [← eN j hj]; exact w⟩
      have hkS : ∀ N : jx_M, (∀ a b, a ≠ 52 → N a b = M a b) → (∀ j, j < k + 1 → N 52 j = jx_up M 52 k (nI c) 52 j) → tp_kS 52 (k + 1) (tp_sr s m r (some c) (st ||| 2 ^ c)) N (fun N => jx_Ev (d + 3) mX8_findOrder 10 [some (.ref 36), some (.int (nI m)), some (.int (nI (s 0 1)))] [] N Q) := by
        intro N n1 n2 l M' e1' e2' e3' e4'
        refine kS (c :: l) M' (by simp only [tp_lp, hf, if_true, e1']) (fun a b z => by rw [e2' a b z, n1 a b z]) (fun j hj => by rw [e3' j (by omega), n2 j (by omega), jx_upE, if_neg (by omega)]) (fun j v hv => ?_)
        cases j with
        | zero =>
          rw [List.getElem?_cons_zero] at hv
          cases hv
          rw [Nat.add_zero, e3' k (by omega), n2 k (by omega), e1]
        | succ j =>
          rw [List.getElem?_cons_succ] at hv
          rw [show k + (j + 1) = k + 1 + j by omega]
          exact e4' j v hv
      have hkN : ∀ N : jx_M, (∀ a b, a ≠ 52 → N a b = M a b) → (∀ j, j < k + 1 → N 52 j = jx_up M 52 k (nI c) 52 j) → tp_kN 52 (k + 1) (tp_sr s m r (some c) (st ||| 2 ^ c)) N (fun N => jx_Ev (d + 3) mX8_findOrder 10 [some (.ref 36), some (.int (nI m)), some (.int (nI k))] [] N Q) := by
        intro N n1 n2 M' e1' e2' e3'
        have hlp : tp_lp (fun c => tp_fit s m prev st c) (fun c => tp_sr s m r (some c) (st ||| 2 ^ c)) c (n + 1) = tp_lp (fun c => tp_fit s m prev st c) (fun c => tp_sr s m r (some c) (st ||| 2 ^ c)) (c + 1) n := by
          rw [tp_lp]
          simp only [hf, if_true, e1']
        rw [hlp] at kS kN
        have p1 : ∀ j, j < k → M' 52 j = M 52 j := fun j hj => by rw [e3' j (by omega), n2 j (by omega), jx_upE, if_neg (by omega)]
        have p2 : ∀ a b, a ≠ 52 → M' a b = M a b := fun a b z => by rw [e2' a b z, n1 a b z]
        exact tq_find_l hr hm hkr (prev := prev) H n (c + 1) M' (by omega) (tp_D_fr hD (fun b q1 q2 => p2 _ _ (by decide)) (fun a b q1 q2 => p2 _ _ (by omega))) (tp_pre_fr hpre p1) (Or.inr ⟨by omega, by rw [e3' k (by omega), n2 k (by omega), e1, Nat.add_sub_cancel]⟩) (fun l N f1 f2 f3 f4 => kS l N f1 (fun a b z => by rw [f2 a b z, p2 a b z]) (fun j hj => by rw [f3 j hj, p1 j hj]) f4) (fun N f1 f2 f3 => kN N f1 (fun a b z => by rw [f2 a b z, p2 a b z]) (fun j hj => by rw [f3 j hj, p1 j hj]))
      by_cases hr0 : r = 0
      · have hgo := H c (jx_up M 52 k (nI c)) hc hD1 (hpre2 _ (fun _ _ => rfl)) (fun z => absurd z (by omega)) (hkS _ (fun a b z => by rw [jx_upE, if_neg (by omega)]) (fun _ _ => rfl)) (hkN _ (fun a b z => by rw [jx_upE, if_neg (by omega)]) (fun _ _ => rfl))
        have ek : k + 1 = s 0 1 := by omega
        simp (disch := first | assumption | omega | decide) only [jx_qI_a, jx_qV_a, jx_qL_a, jn_lt, jn_le, jn_eq, jn_L, jn_A, jn_N, jn_LL, jn_add, jn_mul, jn_sub, jn_cl, jn_vin, jn_shl1, jn_shr, jn_or, jn_l_or0, jn_and1, jo_ltT, jo_ltF, jo_leT, jo_leF, jo_eqT, jo_eqF, true_or, or_true, true_and, and_true, false_or, or_false, false_and, and_false, if_true, if_false, not_true_eq_false, not_false_eq_true, jx_tab, eX8_findOrder, gm2, e2]
        exact hgo
      · have hgo := H c (jx_up (jx_up M 52 k (nI c)) 52 (k + 1) (-9)) hc (tp_D_fr hD1 (fun b q1 q2 => by rw [jx_upE, if_neg (by omega)]) (fun a b q1 q2 => by rw [jx_upE, if_neg (by omega)])) (hpre2 _ (fun j hj => by rw [jx_upE, if_neg (by omega)])) (fun _ => by simp [jx_upE]) (hkS _ (fun a b z => by rw [jx_upE, if_neg (by omega), jx_upE, if_neg (by omega)]) (fun j hj => by rw [jx_upE, if_neg (by omega)])) (hkN _ (fun a b z => by rw [jx_upE, if_neg (by omega), jx_upE, if_neg (by omega)]) (fun j hj => by rw [jx_upE, if_neg (by omega)]))
        simp (disch := first | assumption | omega | decide) only [jx_qI_a, jx_qV_a, jx_qL_a, jn_lt, jn_le, jn_eq, jn_L, jn_A, jn_N, jn_LL, jn_add, jn_mul, jn_sub, jn_cl, jn_vin, jn_shl1, jn_shr, jn_or, jn_l_or0, jn_and1, jo_ltT, jo_ltF, jo_leT, jo_leF, jo_eqT, jo_eqF, true_or, or_true, true_and, and_true, false_or, or_false, false_and, and_false, if_true, if_false, not_true_eq_false, not_false_eq_true, jx_tab, eX8_findOrder, gm2, e2]
        exact hgo
    · have gm2 := fun d q => gm' d q
      rw [if_neg hf] at gm2
      have hlp : tp_lp (fun c => tp_fit s m prev st c) (fun c => tp_sr s m r (some c) (st ||| 2 ^ c)) c (n + 1) = tp_lp (fun c => tp_fit s m prev st c) (fun c => tp_sr s m r (some c) (st ||| 2 ^ c)) (c + 1) n := by
        rw [tp_lp, if_neg hf]
      rw [hlp] at kS kN
      have ih := tq_find_l hr hm hkr (prev := prev) H n (c + 1) (jx_up M 52 k (nI c)) (by omega) hD1 hpre1 (Or.inr ⟨by omega, by rw [e1, Nat.add_sub_cancel]⟩) (fun l N f1 f2 f3 f4 => kS l N f1 (fun a b z => by rw [f2 a b z, jx_upE, if_neg (by omega)]) (fun j hj => by rw [f3 j hj, jx_upE, if_neg (by omega)]) f4) (fun N f1 f2 f3 => kN N f1 (fun a b z => by rw [f2 a b z, jx_upE, if_neg (by omega)]) (fun j hj => by rw [f3 j hj, jx_upE, if_neg (by omega)]))
      simp (disch := first | assumption | omega | decide) only [jx_qI_a, jx_qV_a, jx_qL_a, jn_lt, jn_le, jn_eq, jn_L, jn_A, jn_N, jn_LL, jn_add, jn_mul, jn_sub, jn_cl, jn_vin, jn_shl1, jn_shr, jn_or, jn_l_or0, jn_and1, jo_ltT, jo_ltF, jo_leT, jo_leF, jo_eqT, jo_eqF, true_or, or_true, true_and, and_true, false_or, or_false, false_and, and_false, if_true, if_false, not_true_eq_false, not_false_eq_true, jx_tab, eX8_findOrder, gm2]
      exact ih
end TPR
