/-! one step -/
/-- inLeastTerms, as the run has it -/
def jx_iltM (l : Launch) (D : va_G) (ad : Nat → Nat) (cI cS : ClassId) : Prop := ∀ (u v : Int64) (w : Int32) (r : Int64) (M : jx_M), jx_ilt u v w = some r →
  Met l yX8_inLeastTerms (Cond.code yX8_inLeastTerms cX8_inLeastTerms 11 (some .long) :: jx_TB) (jx_rm 0) (va_Pc [.long u, .long v, .int w] (jx_B D ad cI cS M)) (jx_Q D ad cI cS [.long r] M) 0 0 (jx_A ad)
section JXC
variable {D : va_G} {ad : Nat → Nat} {cI cS : ClassId} {p : Program} {l : Launch} {e : Env} {R : Room} {s : State} {m : MethodId} {args : Array Value} {below : List Frame} {meth : Method} {c : Code} {Q : State → Prop} {H : Heap} {locs : List Loc} {ls : Array Slot} {pc : Nat} {rest st0 : List Value} {a : Array Value} {r1 : List Value} {M1 : jx_M}
theorem jx_call (hr : va_Run p l e R s m args below meth c H locs 0 0 0 0 (F0 m pc ls st0) rest (jx_Q D ad cI cS r1 M1 a) (jx_A ad)) (hS : va_S (jx_A ad) s.heap H locs)
    (kk : ∀ (H1 : Heap) (locs1 : List Loc), va_P D vwCl (jx_w ad cI cS M1) H1 → va_S (jx_A ad) s.heap H1 locs1 → W p l e R s m args below meth c H1 locs1 0 0 Q (F0 m (pc + 3) ls (r1.map (jx_cv ad) ++ rest))) : W p l e R s m args below meth c H locs 0 0 Q (F0 m pc ls st0) := by
  intro T hT X
  obtain ⟨v, st₀, t, T', L, h0, X', hL, e1, e2, ⟨⟨v', hv, hl, hP, hK⟩, hz, hk⟩, st⟩ := hr T hT X
  cases hv
  rw [h0] at hz hk
  obtain ⟨t2, a1, b1⟩ := kk T'.heap (locs ++ L) (by rw [e1]; exact hP)
    ⟨Nat.le_trans hS.1 (by rw [e1]; exact hz), fun q h1 h2 => by rw [e1, hk q (Nat.lt_of_lt_of_le h1 hS.1) h2]; exact hS.2.1 q h1 h2, fun q hq => by
      rcases List.mem_append.mp hq with h | h
      · exact hS.2.2 q h
      · exact hL q h⟩ T' rfl X'
  refine ⟨t2, st t2 ?_, b1⟩
  rw [hl]
  exact a1
end JXC
theorem jx_sumc (ad : Nat → Nat) (st : List Value) : ((st.map (jx_cv ad)).map fun v => v.category).sum = jx_sum st := by
  rw [jx_sum, List.map_map]
  congr 1
  apply List.map_congr_left
  intro v _
  exact jx_cvc ad v
section JXT
variable {D : va_G} {ad : Nat → Nat} {cI cS : ClassId} {p : Program} {l : Launch} {e : Env} {s : State} {m : MethodId} {args : Array Value} {below : List Frame} {meth : Method} {c : Code} {Q : State → Prop} {y pc len pc' d : Nat} {lv lv' : List (Option Value)} {st st' : List Value} {M M' : jx_M}
theorem jx_s_gf {i : Nat} (hC : jx_Cx D cI cS p s m args meth c y) (hd : decode (jx_mb y) pc = .ok (.getfield i, 3)) (h : jx_gf y pc lv st M i = some (pc', lv', st', M')) (kk : jx_G D ad cI cS p l e (jx_rm d) s m args below meth c Q y pc' lv' st' M') : jx_G D ad cI cS p l e (jx_rm d) s m args below meth c Q y pc lv st M := by
  obtain ⟨hx, hb, hml, hown, hts, hr, hlk, hK⟩ := hC
  intro H locs ls hL hP hS
  unfold jx_gf at h
  split at h
  · cases h
  · next ci j hf =>
    split at h
    · next k st1 =>
      split at h
      · next hk =>
        cases h
        subst hk
        obtain ⟨w1, w2, w3⟩ := jx_flw _ (jx_fl_mem hf)
        dsimp only at w1 w2 w3
        have hk56 := jx_klt (k := k) rfl (Nat.lt_trans w2 (by decide))
        have hsz : jx_sz k = jx_N (jx_cl k) := by
          rcases jx_shc k hk56 with q | q | q
          · omega
          · omega
          · exact q.2
        exact va_get (C := jx_rx (jx_cl k)) (T := jx_T (jx_cl k)) (N := jx_N (jx_cl k)) hx hb hts (jx_cin _ w2) hown hK hP k (by rw [jx_w_at hk56, jx_ce_obj w2]) (jx_vcl _ w2) j w3 (hts _ w1) (fun _ h9 => h9) (by rw [List.getElem?_map, List.getElem?_range (by rw [hsz]; exact w3)]; rfl) hd (kk H locs ls hL hP hS)
      · cases h
    · cases h
theorem jx_s_pf {i : Nat} (hinj : jx_inj ad) (hC : jx_Cx D cI cS p s m args meth c y) (hd : decode (jx_mb y) pc = .ok (.putfield i, 3)) (h : jx_pf y pc lv st M i = some (pc', lv', st', M')) (kk : jx_G D ad cI cS p l e (jx_rm d) s m args below meth c Q y pc' lv' st' M') : jx_G D ad cI cS p l e (jx_rm d) s m args below meth c Q y pc lv st M := by
  obtain ⟨hx, hb, hml, hown, hts, hr, hlk, hK⟩ := hC
  intro H locs ls hL hP hS
  unfold jx_pf at h
  split at h
  · cases h
  · next ci j hf =>
    obtain ⟨w1, w2, w3⟩ := jx_flw _ (jx_fl_mem hf)
    dsimp only at w1 w2 w3
    have hko := jx_fko ci w2 j w3
    unfold jx_fkP at hko
    have key : ∀ (k : Nat) (x : Int32) (v : Value), jx_cl k = ci → jx_cv ad (jx_fv (jx_fk ci j) (upd (M k) j x) k j) = v → (jx_T ci j).2.2.2 = false → narrow (jx_ty ci j) v = v → fits (jx_ty ci j) v = true →
        (∀ (H1 : Heap) (locs1 : List Loc), va_P D vwCl (jx_w ad cI cS (jx_up M k j x)) H1 → va_S (jx_A ad) s.heap H1 locs1 → W p l e (jx_rm d) s m args below meth c H1 locs1 0 0 Q (F0 m (pc + 3) ls (st'.map (jx_cv ad)))) →
        W p l e (jx_rm d) s m args below meth c H locs 0 0 Q (F0 m pc ls (v :: .ref (ad k) :: st'.map (jx_cv ad))) := by
      intro k x v hk hv hfin hn hfit kont
      subst hk
      have hk56 := jx_klt (k := k) rfl (Nat.lt_trans w2 (by decide))
      have hsz : jx_sz k = jx_N (jx_cl k) := by
        rcases jx_shc k hk56 with q | q | q
        · omega
        · omega
        · exact q.2
      refine va_put (C := jx_rx (jx_cl k)) (T := jx_T (jx_cl k)) (N := jx_N (jx_cl k)) hx hb hts (jx_cin _ w2) (jx_ty (jx_cl k)) (jx_cty _ w2) (jx_cnm _ w2) hown hK hP (jx_w_D hinj) hS k (by rw [jx_w_at hk56, jx_ce_obj w2]) (jx_vcl _ w2) j w3 (hts _ w1) (fun _ h9 => h9) hfin (jx_cty _ w2 j w3) hn hfit (by simp [hsz]; exact w3) hd (fun H1 locs1 hP1 hD1 hS1 => ?_)
      rw [jx_w_set (M' := jx_up M k j x) hk56 jx_up_o (by rw [jx_up_s, jx_ce_obj w2, jx_fs_set (by rw [hsz]; exact w3) hv])] at hP1
      exact kont H1 locs1 hP1 hS1
    split at h
    · next x k st1 =>
      split at h
      · next hc =>
        cases h
        obtain ⟨hk, hc | ⟨hc, hx01⟩⟩ := hc
        · rw [hc] at hko
          simp only [Bool.and_eq_true, Bool.not_eq_true', decide_eq_true_eq] at hko
          exact key k x (.int x) hk (by rw [hc]; simp [jx_fv, jx_cv, upd]) hko.1 (by rw [hko.2]; rfl) (by rw [hko.2]; rfl) (fun H1 locs1 h1 h2 => kk H1 locs1 ls hL h1 h2)
        · rw [hc] at hko
          simp only [Bool.and_eq_true, Bool.not_eq_true', decide_eq_true_eq] at hko
          refine key k x (.int x) hk (by rw [hc]; simp [jx_fv, jx_cv, upd]) hko.1 ?_ ?_ (fun H1 locs1 h1 h2 => kk H1 locs1 ls hL h1 h2)
          · rw [hko.2]; rcases hx01 with rfl | rfl <;> rfl
          · rw [hko.2]; rcases hx01 with rfl | rfl <;> rfl
      · cases h
    · next o k st1 =>
      split at h
      · next hc =>
        cases h
        obtain ⟨hk, hc, ho⟩ := hc
        rw [hc] at hko
        simp only [Bool.and_eq_true, Bool.not_eq_true', Bool.or_eq_true, decide_eq_true_eq] at hko
        refine key k (nI o) (.ref (ad o)) hk (by rw [hc]; simp [jx_fv, jx_cv, upd, jx_rvn ho]) hko.1 ?_ ?_ (fun H1 locs1 h1 h2 => kk H1 locs1 ls hL h1 h2)
        · rcases hko.2 with z | z <;> rw [z] <;> rfl
        · rcases hko.2 with z | z <;> rw [z] <;> rfl
      · cases h
    · cases h
theorem jx_s_al (hC : jx_Cx D cI cS p s m args meth c y) (hd : decode (jx_mb y) pc = .ok (.iaload, 1)) (h : jx_al pc lv st M = some (pc', lv', st', M')) (kk : jx_G D ad cI cS p l e (jx_rm d) s m args below meth c Q y pc' lv' st' M') : jx_G D ad cI cS p l e (jx_rm d) s m args below meth c Q y pc lv st M := by
  obtain ⟨hx, hb, hml, hown, hts, hr, hlk, hK⟩ := hC
  intro H locs ls hL hP hS
  unfold jx_al at h
  split at h
  · next i a st1 =>
    split at h
    · next hc =>
      cases h
      have hk56 := jx_klt hc.1 (by decide)
      exact va_iald hx hb hK hP a 0 (by rw [jx_w_at hk56, jx_ce_arr hc.1]) rfl hc.2 hd (kk H locs ls hL hP hS)
    · cases h
  · cases h
theorem jx_s_as (hinj : jx_inj ad) (hC : jx_Cx D cI cS p s m args meth c y) (hd : decode (jx_mb y) pc = .ok (.iastore, 1)) (h : jx_as pc lv st M = some (pc', lv', st', M')) (kk : jx_G D ad cI cS p l e (jx_rm d) s m args below meth c Q y pc' lv' st' M') : jx_G D ad cI cS p l e (jx_rm d) s m args below meth c Q y pc lv st M := by
  obtain ⟨hx, hb, hml, hown, hts, hr, hlk, hK⟩ := hC
  intro H locs ls hL hP hS
  unfold jx_as at h
  split at h
  · next x i a st1 =>
    split at h
    · next hc =>
      cases h
      have hk56 := jx_klt hc.1 (by decide)
      refine va_iast hx hb hK hP (jx_w_D hinj) hS a 0 (by rw [jx_w_at hk56, jx_ce_arr hc.1]) rfl hc.2 hd (fun H1 locs1 hP1 hD1 hS1 => ?_)
      rw [jx_w_set (M' := jx_up M a i.toNatClampNeg x) hk56 jx_up_o (by rw [jx_up_s, jx_ce_arr hc.1])] at hP1
      exact kk H1 locs1 ls hL hP1 hS1
    · cases h
  · cases h
theorem jx_s_aa (hC : jx_Cx D cI cS p s m args meth c y) (hd : decode (jx_mb y) pc = .ok (.aaload, 1)) (h : jx_aa pc lv st M = some (pc', lv', st', M')) (kk : jx_G D ad cI cS p l e (jx_rm d) s m args below meth c Q y pc' lv' st' M') : jx_G D ad cI cS p l e (jx_rm d) s m args below meth c Q y pc lv st M := by
  obtain ⟨hx, hb, hml, hown, hts, hr, hlk, hK⟩ := hC
  intro H locs ls hL hP hS
  unfold jx_aa at h
  split at h
  · next i a st1 =>
    split at h
    · next hc =>
      cases h
      obtain ⟨rfl, hin⟩ := hc
      exact va_aldq (C := RX4) (f := fun j => some (ad (28 + 2 * j))) hx hb hK hP 1 1 (by rw [jx_w_at (by decide)]; rfl) rfl hin hd (kk H locs ls hL hP hS)
    · cases h
  · cases h
theorem jx_bi_mem {o i b : Nat} (h : jx_bi o i = b) (hb : b ≠ 0) : (o, i, b) ∈ jx_biT := by
  unfold jx_bi at h
  cases h1 : jx_biT.find? (fun e => e.1 == o && e.2.1 == i) with
  | none => rw [h1] at h; exact absurd h.symm hb
  | some e =>
    rw [h1] at h
    have h2 := List.find?_some h1
    simp only [Bool.and_eq_true, beq_iff_eq] at h2
    have h3 := List.mem_of_find?_eq_some h1
    obtain ⟨a, b, c⟩ := e
    simp only [Option.map_some, Option.getD_some] at h
    obtain ⟨rfl, rfl⟩ := h2
    rw [← h]
    exact h3
theorem jx_bw : ∀ e ∈ jx_biT, (e.2.2 = 1 → Cond.methodLink (jx_rx e.1) e.2.1 Lib.Math.max.name ∈ jx_TB) ∧ (e.2.2 = 2 → Cond.methodLink (jx_rx e.1) e.2.1 Lib.Math.min.name ∈ jx_TB) ∧ (e.2.2 = 3 → Cond.methodLink (jx_rx e.1) e.2.1 Lib.Math.abs.name ∈ jx_TB) ∧ (e.2.2 = 4 → Cond.methodLink (jx_rx e.1) e.2.1 arraycopyName ∈ jx_TB) ∧ (e.2.2 = 5 → Cond.methodLink (jx_rx e.1) e.2.1 yX8_inLeastTerms ∈ jx_TB) := by
  unfold jx_biT
  simp only [List.forall_mem_cons, List.not_mem_nil, false_imp_iff, implies_true, and_true]
  refine ⟨?_, ?_, ?_, ?_, ?_, ?_⟩ <;> refine ⟨?_, ?_, ?_, ?_, ?_⟩ <;> intro h <;> first | exact absurd h (by decide) | exact jx_bw_2_46 | exact jx_bw_0_64 | exact jx_bw_5_28 | exact jx_bw_5_52 | exact jx_bw_7_228 | exact jx_bw_8_183
theorem jx_s_nat {i : Nat} (hI : jx_iltM l D ad cI cS) (hinj : jx_inj ad) (hC : jx_Cx D cI cS p s m args meth c y) (hd : decode (jx_mb y) pc = .ok (.invokestatic i, 3)) (h : jx_nat (jx_bi (jx_mo y) i) d pc lv st M = some (pc', lv', st', M')) (kk : jx_G D ad cI cS p l e (jx_rm d) s m args below meth c Q y pc' lv' st' M') : jx_G D ad cI cS p l e (jx_rm d) s m args below meth c Q y pc lv st M := by
  obtain ⟨hx, hb, hml, hown, hts, hr, hlk, hK⟩ := hC
  intro H locs ls hL hP hS
  have hsz : c.maxLocals = ls.size := by rw [hml]; exact hL.2.2.1.symm
  unfold jx_nat at h
  split at h
  · next hb1 =>
    split at h
    · next a0 a1 st1 =>
      split at h
      · next hc =>
        cases h
        refine va_mmax (R := jx_rm d) hx hb hsz hown (hts _ ((jx_bw _ (jx_bi_mem hb1 (by decide))).1 rfl)) (hts _ jx_bs_max) (hts _ jx_bini) (hts _ jx_bc_max) hc.1 ?_ (Nat.le_refl 0) (Nat.le_refl 0) hd (kk H locs ls hL hP hS)
        rw [jx_sumc]; show _ ≤ 100 * d; omega
      · cases h
    · cases h
  · next hb1 =>
    split at h
    · next a0 a1 st1 =>
      split at h
      · next hc =>
        cases h
        refine va_mmin (R := jx_rm d) hx hb hsz hown (hts _ ((jx_bw _ (jx_bi_mem hb1 (by decide))).2.1 rfl)) (hts _ jx_bs_min) (hts _ jx_bini) (hts _ jx_bc_min) hc.1 ?_ (Nat.le_refl 0) (Nat.le_refl 0) hd (kk H locs ls hL hP hS)
        rw [jx_sumc]; show _ ≤ 100 * d; omega
      · cases h
    · cases h
  · next hb1 =>
    split at h
    · next a0 st1 =>
      split at h
      · next hc =>
        cases h
        refine va_mabs (R := jx_rm d) hx hb hsz hown (hts _ ((jx_bw _ (jx_bi_mem hb1 (by decide))).2.2.1 rfl)) (hts _ jx_bs_abs) (hts _ jx_bini) (hts _ jx_bc_abs) hc.1 ?_ (Nat.le_refl 0) (Nat.le_refl 0) hd (kk H locs ls hL hP hS)
        rw [jx_sumc]; show _ ≤ 100 * d; omega
      · cases h
    · cases h
  · next hb1 =>
    split at h
    · next n dp b sp a st1 =>
      split at h
      · next hc =>
        cases h
        obtain ⟨c1, c2, ca, cb, c3, c4, c5, c6, c7⟩ := hc
        have ka := jx_klt ca (by decide)
        have kb := jx_klt cb (by decide)
        refine va_copyi hx hb hsz hown (hts _ ((jx_bw _ (jx_bi_mem hb1 (by decide))).2.2.2.1 rfl)) (hts _ jx_bacn) (hts _ jx_bacs) (hts _ jx_binis) hK hP (jx_w_D hinj) hS a b 0 0 (by rw [jx_w_at ka, jx_ce_arr ca]) (by rw [jx_w_at kb, jx_ce_arr cb]) rfl rfl rfl c3 c4 c5 c6 c7 (fun _ _ => rfl) c1 ?_ hd (fun H1 locs1 hP1 hD1 hS1 => ?_)
        · rw [jx_sumc]
          have e : nativeFrameWords "java/lang/System" "arraycopy" 5 ≤ 40 := by decide +kernel
          show _ ≤ 100 * d; omega
        · rw [jx_w_set (M' := jx_cp M a b sp dp n) kb (fun a' h' => by simp [jx_cp, h']) (by rw [jx_ce_arr cb]; simp [jx_cp])] at hP1
          exact kk H1 locs1 ls hL hP1 hS1
      · cases h
    · cases h
  · next hb1 =>
    split at h
    · next w dd u st1 =>
      split at h
      · next hc =>
        split at h
        · next r hr1 =>
          cases h
          obtain ⟨d', rfl⟩ : ∃ d', d = d' + 1 := ⟨d - 1, by omega⟩
          have hM := hI u dd w r M hr1
          refine jx_call (r1 := [.long r]) (M1 := M) (va_runS (As := [.long u, .long dd, .int w]) (rest := st1.map (jx_cv ad)) ⟨hx, hb, hml, hown, hts⟩ hM
            (va_cwS 3 hts (jx_good (fun w hw => ?_)) rfl rfl rfl ⟨by decide +kernel, by decide +kernel, by decide +kernel⟩ ⟨?_, ?_⟩) ⟨jx_blind, fun U hU hW => ⟨rfl, by rw [hU]; exact hP, va_K.moved hW.alike hK⟩⟩ rfl rfl hL.2.2.1 rfl (lv_room (by rw [jx_sumc]; exact hc.2)) hd ⟨Nat.le_refl 0, Nat.le_refl 0⟩) hS (fun H1 locs1 hP1 hS1 => kk H1 locs1 ls hL hP1 hS1)
          · rcases List.mem_append.mp hw with h1 | h1
            · simp only [List.mem_cons, List.not_mem_nil, or_false] at h1
              rcases h1 with rfl | rfl | rfl
              · exact (jx_bw _ (jx_bi_mem hb1 (by decide))).2.2.2.2 rfl
              · exact (jx_oks mX8_inLeastTerms (by decide)).2.2.2.2.2.2.2
              · exact (jx_oks mX8_inLeastTerms (by decide)).2.1
            · rcases List.mem_cons.mp h1 with rfl | h1
              · exact (jx_oks mX8_inLeastTerms (by decide)).1
              · exact h1
          · show 0 + 1 ≤ d' + 1; omega
          · show 8 + (11 + 11) + 100 * 0 ≤ 100 * (d' + 1); omega
        · cases h
      · cases h
    · cases h
  · cases h
end JXT
