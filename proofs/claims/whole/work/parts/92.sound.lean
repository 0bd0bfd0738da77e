/-! every step, and the whole run -/
section JXT
variable {D : va_G} {ad : Nat → Nat} {cI cS : ClassId} {p : Program} {l : Launch} {e : Env} {s : State} {m : MethodId} {args : Array Value} {below : List Frame} {meth : Method} {c : Code} {Q : State → Prop} {y pc len pc' d : Nat} {lv lv' : List (Option Value)} {st st' : List Value} {M M' : jx_M}
set_option maxHeartbeats 4000000 in
theorem jx_step {i : Instr} (hI : jx_iltM l D ad cI cS) (hinj : jx_inj ad) (hC : jx_Cx D cI cS p s m args meth c y) (hd : decode (jx_mb y) pc = .ok (i, len)) (h : jx_st d y pc i len lv st M = some (pc', lv', st', M')) (kk : jx_G D ad cI cS p l e (jx_rm d) s m args below meth c Q y pc' lv' st' M') : jx_G D ad cI cS p l e (jx_rm d) s m args below meth c Q y pc lv st M := by
  obtain ⟨hx, hb, hml, hown, hts, hr, hlk, hK⟩ := id hC
  cases i
  case getfield i =>
    simp only [jx_st] at h
    split at h
    · next hl => subst hl; exact jx_s_gf hC hd h kk
    · cases h
  case putfield i =>
    simp only [jx_st] at h
    split at h
    · next hl => subst hl; exact jx_s_pf hinj hC hd h kk
    · cases h
  case iaload =>
    simp only [jx_st] at h
    split at h
    · next hl => subst hl; exact jx_s_al hC hd h kk
    · cases h
  case iastore =>
    simp only [jx_st] at h
    split at h
    · next hl => subst hl; exact jx_s_as hinj hC hd h kk
    · cases h
  case aaload =>
    simp only [jx_st] at h
    split at h
    · next hl => subst hl; exact jx_s_aa hC hd h kk
    · cases h
  case invokestatic i =>
    simp only [jx_st] at h
    split at h
    · next hl => subst hl; exact jx_s_nat hI hinj hC hd h kk
    · cases h
  case iconst n =>
    simp only [jx_st] at h
    split at h
    · next hl => subst hl; cases h; exact fun H locs ls hL hP hS => lv_iconst hx hb hd rfl (kk H locs ls hL hP hS)
    · cases h
  case bipush n =>
    simp only [jx_st] at h
    split at h
    · next hl => subst hl; cases h; exact fun H locs ls hL hP hS => lv_bipush hx hb hd rfl (kk H locs ls hL hP hS)
    · cases h
  case sipush n =>
    simp only [jx_st] at h
    split at h
    · next hl => subst hl; cases h; exact fun H locs ls hL hP hS => lv_sipush hx hb hd rfl (kk H locs ls hL hP hS)
    · cases h
  case lconst n =>
    simp only [jx_st] at h
    split at h
    · next hl => subst hl; cases h; exact fun H locs ls hL hP hS => lv_lconst hx hb hd rfl (kk H locs ls hL hP hS)
    · cases h
  case ldc k =>
    simp only [jx_st] at h
    split at h
    · next hl =>
      obtain ⟨rfl, h1, rfl⟩ := hl
      cases h
      exact fun H locs ls hL hP hS => lv_ldc hx hb hown (by rw [h1]; exact hts _ jx_k0) hd (kk H locs ls hL hP hS)
    · cases h
  case ldc2_w k =>
    simp only [jx_st] at h
    split at h
    · next hl =>
      obtain ⟨rfl, ⟨h1, rfl⟩ | ⟨h1, rfl⟩⟩ := hl
      · cases h
        exact fun H locs ls hL hP hS => lv_ldc2 hx hb hown (by rw [h1]; exact hts _ jx_k7) hd (kk H locs ls hL hP hS)
      · cases h
        exact fun H locs ls hL hP hS => lv_ldc2 hx hb hown (by rw [h1]; exact hts _ jx_k8) hd (kk H locs ls hL hP hS)
    · cases h
  case iload k =>
    simp only [jx_st, jx_ldi] at h
    split at h
    · next hl =>
      subst hl
      split at h
      · next x hk => cases h; exact fun H locs ls hL hP hS => lv_iload hx hb hd (hL.get hk) (kk H locs ls hL hP hS)
      · cases h
    · cases h
  case iload_n k =>
    simp only [jx_st, jx_ldi] at h
    split at h
    · next hl =>
      subst hl
      split at h
      · next x hk => cases h; exact fun H locs ls hL hP hS => lv_iload_n hx hb hd rfl (hL.get hk) (kk H locs ls hL hP hS)
      · cases h
    · cases h
  case aload k =>
    simp only [jx_st, jx_lda] at h
    split at h
    · next hl =>
      subst hl
      split at h
      · next x hk => cases h; exact fun H locs ls hL hP hS => lv_aload hx hb hd (hL.get hk) (kk H locs ls hL hP hS)
      · cases h
    · cases h
  case aload_n k =>
    simp only [jx_st, jx_lda] at h
    split at h
    · next hl =>
      subst hl
      split at h
      · next x hk => cases h; exact fun H locs ls hL hP hS => lv_aload_n hx hb hd rfl (hL.get hk) (kk H locs ls hL hP hS)
      · cases h
    · cases h
  case istore k =>
    simp only [jx_st, jx_sti] at h
    split at h
    · next hl =>
      subst hl
      split at h
      · next x st1 =>
        split at h
        · next hk => cases h; exact fun H locs ls hL hP hS => lv_istore hx hb hd hL.2.2 (by rw [← hL.1]; exact hk) rfl (fun ls' h' => kk H locs ls' (hL.set hk rfl h') hP hS)
        · cases h
      · cases h
    · cases h
  case istore_n k =>
    simp only [jx_st, jx_sti] at h
    split at h
    · next hl =>
      subst hl
      split at h
      · next x st1 =>
        split at h
        · next hk => cases h; exact fun H locs ls hL hP hS => lv_istore_n hx hb hd rfl hL.2.2 (by rw [← hL.1]; exact hk) rfl (fun ls' h' => kk H locs ls' (hL.set hk rfl h') hP hS)
        · cases h
      · cases h
    · cases h
  case astore k =>
    simp only [jx_st, jx_sta] at h
    split at h
    · next hl =>
      subst hl
      split at h
      · next x st1 =>
        split at h
        · next hk => cases h; exact fun H locs ls hL hP hS => lv_astore hx hb hd hL.2.2 (by rw [← hL.1]; exact hk) rfl (fun ls' h' => kk H locs ls' (hL.set (v := .ref x) hk rfl h') hP hS)
        · cases h
      · cases h
    · cases h
  case astore_n k =>
    simp only [jx_st, jx_sta] at h
    split at h
    · next hl =>
      subst hl
      split at h
      · next x st1 =>
        split at h
        · next hk => cases h; exact fun H locs ls hL hP hS => lv_astore_n hx hb hd rfl hL.2.2 (by rw [← hL.1]; exact hk) rfl (fun ls' h' => kk H locs ls' (hL.set (v := .ref x) hk rfl h') hP hS)
        · cases h
      · cases h
    · cases h
  case iinc k n =>
    simp only [jx_st, jx_inc] at h
    split at h
    · next hl =>
      subst hl
      split at h
      · next x hk =>
        cases h
        intro H locs ls hL hP hS
        have hlt : k < lv.length := (List.getElem?_eq_some_iff.mp hk).1
        obtain ⟨k0, hk0⟩ := List.getElem?_of_mem (jx_ls_mem (ad := ad) (q := (k, .int x)).mpr ⟨.int x, hk, rfl⟩)
        exact lv_iinc hx hb hd hL.2.2 hk0 rfl (by rw [← hL.1]; exact hlt) rfl (fun ls' h' => kk H locs ls' (hL.set hlt rfl h') hP hS)
      · cases h
    · cases h
  case iadd =>
    simp only [jx_st, jx_b2] at h
    split at h
    · next hl =>
      subst hl
      split at h
      · cases h; exact fun H locs ls hL hP hS => lv_iadd hx hb hd (kk H locs ls hL hP hS)
      · cases h
    · cases h
  case isub =>
    simp only [jx_st, jx_b2] at h
    split at h
    · next hl =>
      subst hl
      split at h
      · cases h; exact fun H locs ls hL hP hS => lv_isub hx hb hd (kk H locs ls hL hP hS)
      · cases h
    · cases h
  case imul =>
    simp only [jx_st, jx_b2] at h
    split at h
    · next hl =>
      subst hl
      split at h
      · cases h; exact fun H locs ls hL hP hS => lv_imul hx hb hd (kk H locs ls hL hP hS)
      · cases h
    · cases h
  case iand =>
    simp only [jx_st, jx_b2] at h
    split at h
    · next hl =>
      subst hl
      split at h
      · cases h; exact fun H locs ls hL hP hS => lv_iand hx hb hd (kk H locs ls hL hP hS)
      · cases h
    · cases h
  case ior =>
    simp only [jx_st, jx_b2] at h
    split at h
    · next hl =>
      subst hl
      split at h
      · cases h; exact fun H locs ls hL hP hS => lv_ior hx hb hd (kk H locs ls hL hP hS)
      · cases h
    · cases h
  case ishl =>
    simp only [jx_st, jx_b2] at h
    split at h
    · next hl =>
      subst hl
      split at h
      · cases h; exact fun H locs ls hL hP hS => lv_ishl hx hb hd (kk H locs ls hL hP hS)
      · cases h
    · cases h
  case ishr =>
    simp only [jx_st, jx_b2] at h
    split at h
    · next hl =>
      subst hl
      split at h
      · cases h; exact fun H locs ls hL hP hS => lv_ishr hx hb hd (kk H locs ls hL hP hS)
      · cases h
    · cases h
  case idiv =>
    simp only [jx_st, jx_dv] at h
    split at h
    · next hl =>
      subst hl
      split at h
      · split at h
        · cases h
        · next hn => cases h; exact fun H locs ls hL hP hS => lv_idiv hx hb hd hn (kk H locs ls hL hP hS)
      · cases h
    · cases h
  case irem =>
    simp only [jx_st, jx_dv] at h
    split at h
    · next hl =>
      subst hl
      split at h
      · split at h
        · cases h
        · next hn => cases h; exact fun H locs ls hL hP hS => lv_irem hx hb hd hn (kk H locs ls hL hP hS)
      · cases h
    · cases h
  case ineg =>
    simp only [jx_st, jx_u1] at h
    split at h
    · next hl =>
      subst hl
      split at h
      · cases h; exact fun H locs ls hL hP hS => lv_ineg hx hb hd (kk H locs ls hL hP hS)
      · cases h
    · cases h
  case i2b =>
    simp only [jx_st, jx_u1] at h
    split at h
    · next hl =>
      subst hl
      split at h
      · cases h; exact fun H locs ls hL hP hS => lv_i2b hx hb hd rfl (kk H locs ls hL hP hS)
      · cases h
    · cases h
  case i2s =>
    simp only [jx_st, jx_u1] at h
    split at h
    · next hl =>
      subst hl
      split at h
      · cases h; exact fun H locs ls hL hP hS => lv_i2s hx hb hd rfl (kk H locs ls hL hP hS)
      · cases h
    · cases h
  case i2l =>
    simp only [jx_st, jx_u1] at h
    split at h
    · next hl =>
      subst hl
      split at h
      · cases h; exact fun H locs ls hL hP hS => lv_i2l hx hb hd rfl (kk H locs ls hL hP hS)
      · cases h
    · cases h
  case lshl =>
    simp only [jx_st, jx_lsh] at h
    split at h
    · next hl =>
      subst hl
      split at h
      · cases h; exact fun H locs ls hL hP hS => lv_lshl hx hb hd rfl (kk H locs ls hL hP hS)
      · cases h
    · cases h
  case dup =>
    simp only [jx_st, jx_dup] at h
    split at h
    · next hl =>
      subst hl
      split at h
      · split at h
        · next hc => cases h; exact fun H locs ls hL hP hS => lv_dup hx hb hd (by rw [jx_cvc]; exact hc) (kk H locs ls hL hP hS)
        · cases h
      · cases h
    · cases h
  case dup2 =>
    simp only [jx_st, jx_dup2] at h
    split at h
    · next hl =>
      subst hl
      split at h
      · split at h
        · next hc => cases h; exact fun H locs ls hL hP hS => lv_dup2_11 hx hb hd (by rw [jx_cvc]; exact hc.1) (by rw [jx_cvc]; exact hc.2) (kk H locs ls hL hP hS)
        · cases h
      · cases h
    · cases h
  case goto off =>
    simp only [jx_st] at h
    split at h
    · next hl =>
      subst hl
      split at h
      · next t ht => cases h; exact fun H locs ls hL hP hS => lv_goto hx hb hd (jx_jpe ht) (kk H locs ls hL hP hS)
      · cases h
    · cases h
  case ifnull off =>
    simp only [jx_st, jx_brn] at h
    split at h
    · next hl =>
      subst hl
      split at h
      · cases h; exact fun H locs ls hL hP hS => lv_ifnull hx hb hd (kk H locs ls hL hP hS)
      · split at h
        · next t ht => cases h; exact fun H locs ls hL hP hS => lv_ifnullN hx hb hd (jx_jpe ht) (kk H locs ls hL hP hS)
        · cases h
      · cases h
    · cases h
  case ifCond cd off =>
    simp only [jx_st, jx_br1] at h
    split at h
    · next hl =>
      subst hl
      split at h
      · next x st1 =>
        split at h
        · next t ht =>
          cases h
          intro H locs ls hL hP hS
          have hk := kk H locs ls hL hP hS
          have ht := jx_jpe ht
          cases cd
          · exact lv_if_eq hx hb hd ht (fun q => by rw [if_pos (by simp [jx_h, q])] at hk; exact hk) (fun q => by rw [if_neg (by simp [jx_h, q])] at hk; exact hk)
          · exact lv_if_ne hx hb hd ht (fun q => by rw [if_pos (by simp [jx_h, q])] at hk; exact hk) (fun q => by rw [if_neg (by simp only [jx_h, decide_eq_true_eq]; exact fun z => z q)] at hk; exact hk)
          · exact lv_if_lt hx hb hd ht (fun q => by rw [if_pos (by simp only [jx_h, decide_eq_true_eq]; exact q)] at hk; exact hk) (fun q => by rw [if_neg (by simp only [jx_h, decide_eq_true_eq]; exact q)] at hk; exact hk)
          · exact lv_if_ge hx hb hd ht (fun q => by rw [if_pos (by simp only [jx_h, decide_eq_true_eq]; exact q)] at hk; exact hk) (fun q => by rw [if_neg (by simp only [jx_h, decide_eq_true_eq]; exact q)] at hk; exact hk)
          · exact lv_if_gt hx hb hd ht (fun q => by rw [if_pos (by simp only [jx_h, decide_eq_true_eq]; exact q)] at hk; exact hk) (fun q => by rw [if_neg (by simp only [jx_h, decide_eq_true_eq]; exact q)] at hk; exact hk)
          · exact lv_if_le hx hb hd ht (fun q => by rw [if_pos (by simp only [jx_h, decide_eq_true_eq]; exact q)] at hk; exact hk) (fun q => by rw [if_neg (by simp only [jx_h, decide_eq_true_eq]; exact q)] at hk; exact hk)
        · cases h
      · cases h
    · cases h
  case if_icmp cd off =>
    simp only [jx_st, jx_br2] at h
    split at h
    · next hl =>
      subst hl
      split at h
      · next z x st1 =>
        split at h
        · next t ht =>
          cases h
          intro H locs ls hL hP hS
          have hk := kk H locs ls hL hP hS
          have ht := jx_jpe ht
          cases cd
          · exact lv_icmp_eq hx hb hd ht (fun q => by rw [if_pos (by simp only [jx_h, decide_eq_true_eq]; exact q)] at hk; exact hk) (fun q => by rw [if_neg (by simp only [jx_h, decide_eq_true_eq]; exact q)] at hk; exact hk)
          · exact lv_icmp_ne hx hb hd ht (fun q => by rw [if_pos (by simp only [jx_h, decide_eq_true_eq]; exact q)] at hk; exact hk) (fun q => by rw [if_neg (by simp only [jx_h, decide_eq_true_eq]; exact fun z => z q)] at hk; exact hk)
          · exact lv_icmp_lt hx hb hd ht (fun q => by rw [if_pos (by simp only [jx_h, decide_eq_true_eq]; exact q)] at hk; exact hk) (fun q => by rw [if_neg (by simp only [jx_h, decide_eq_true_eq]; exact q)] at hk; exact hk)
          · exact lv_icmp_ge hx hb hd ht (fun q => by rw [if_pos (by simp only [jx_h, decide_eq_true_eq]; exact q)] at hk; exact hk) (fun q => by rw [if_neg (by simp only [jx_h, decide_eq_true_eq]; exact q)] at hk; exact hk)
          · exact lv_icmp_gt hx hb hd ht (fun q => by rw [if_pos (by simp only [jx_h, decide_eq_true_eq]; exact q)] at hk; exact hk) (fun q => by rw [if_neg (by simp only [jx_h, decide_eq_true_eq]; exact q)] at hk; exact hk)
          · exact lv_icmp_le hx hb hd ht (fun q => by rw [if_pos (by simp only [jx_h, decide_eq_true_eq]; exact q)] at hk; exact hk) (fun q => by rw [if_neg (by simp only [jx_h, decide_eq_true_eq]; exact q)] at hk; exact hk)
        · cases h
      · cases h
    · cases h
  case tableswitch dflt lo hi offs =>
    simp only [jx_st, jx_tsw] at h
    split at h
    · next x st1 =>
      split at h
      · next ho =>
        split at h
        · next t ht => cases h; exact fun H locs ls hL hP hS => lv_tableOut hx hb hd ho (jx_jpe ht) (kk H locs ls hL hP hS)
        · cases h
      · next ho =>
        split at h
        · next off hoff =>
          split at h
          · next t ht => cases h; exact fun H locs ls hL hP hS => lv_tableIn hx hb hd (fun q => ho (Or.inl q)) (fun q => ho (Or.inr q)) hoff (jx_jpe ht) (kk H locs ls hL hP hS)
          · cases h
        · cases h
    · cases h
  case lookupswitch dflt ps =>
    simp only [jx_st, jx_lsw] at h
    split at h
    · next x st1 =>
      split at h
      · next ho =>
        split at h
        · next t ht => cases h; exact fun H locs ls hL hP hS => lv_lookup hx hb hd ho rfl (jx_jpe ht) (kk H locs ls hL hP hS)
        · cases h
      · cases h
    · cases h
  all_goals (simp only [jx_st, reduceCtorEq] at h)
theorem jx_ret {i : Instr} {r : List Value} (hC : jx_Cx D cI cS p s m args meth c y) (hd : decode (jx_mb y) pc = .ok (i, len)) (h : jx_rt y i len st = some r) : jx_G D ad cI cS p l e (jx_rm d) s m args below meth c (MQ below (jx_Q D ad cI cS r M) args s 0 0 (jx_A ad)) y pc lv st M := by
  obtain ⟨hx, hb, hml, hown, hts, hr, hlk, hK⟩ := id hC
  intro H locs ls hL hP hS
  unfold jx_rt at h
  split at h
  · split at h
    · next v =>
      split at h
      · next hc =>
        obtain ⟨rfl, hc⟩ := hc
        cases h
        rcases hc with hc | ⟨hc, hv⟩
        · exact W.zret (ty := .int) hx hb (by rw [hr, hc]) rfl (fun t ht hW => ⟨⟨some (.int v), rfl, rfl, by rw [ht]; exact hP, va_K.moved hW.alike hK⟩, hS.F ht⟩) hS.2.2 hd hlk
        · exact W.zret (ty := .boolean) hx hb (by rw [hr, hc]) (by rcases hv with rfl | rfl <;> rfl) (fun t ht hW => ⟨⟨some (.int v), rfl, rfl, by rw [ht]; exact hP, va_K.moved hW.alike hK⟩, hS.F ht⟩) hS.2.2 hd hlk
      · cases h
    · cases h
  · split at h
    · next v =>
      split at h
      · next hc =>
        obtain ⟨rfl, hc⟩ := hc
        cases h
        exact W.lret hx hb (by rw [hr, hc]) (fun t ht hW => ⟨⟨some (.long v), rfl, rfl, by rw [ht]; exact hP, va_K.moved hW.alike hK⟩, hS.F ht⟩) hS.2.2 hd hlk
      · cases h
    · cases h
  · split at h
    · split at h
      · next hc =>
        obtain ⟨rfl, hc⟩ := hc
        cases h
        exact W.vret hx hb (by rw [hr, hc]) (fun t ht hW => ⟨⟨none, rfl, rfl, by rw [ht]; exact hP, va_K.moved hW.alike hK⟩, hS.F ht⟩) hS.2.2 hd hlk
      · cases h
    · cases h
  · cases h
/-- a call, by the callee's contract -/
theorem jx_inv {i : Instr} {y' : Nat} {As rest r1 : List Value} {M1 : jx_M} (hC : jx_Cx D cI cS p s m args meth c y) (hd : decode (jx_mb y) pc = .ok (i, len)) (h : jx_cc y i len st = some (y', As, rest)) (hM : jx_Met l D ad cI cS d y' As M r1 M1)
    (kk : jx_G D ad cI cS p l e (jx_rm (d + 1)) s m args below meth c Q y (pc + 3) lv (r1 ++ rest) M1) : jx_G D ad cI cS p l e (jx_rm (d + 1)) s m args below meth c Q y pc lv st M := by
  obtain ⟨hx, hb, hml, hown, hts, hr, hlk, hK⟩ := id hC
  intro H locs ls hL hP hS
  have kk' : ∀ (H1 : Heap) (locs1 : List Loc), va_P D vwCl (jx_w ad cI cS M1) H1 → va_S (jx_A ad) s.heap H1 locs1 → W p l e (jx_rm (d + 1)) s m args below meth c H1 locs1 0 0 Q (F0 m (pc + 3) ls (r1.map (jx_cv ad) ++ rest.map (jx_cv ad))) := fun H1 locs1 h1 h2 => by
    have := kk H1 locs1 ls hL h1 h2
    rwa [List.map_append] at this
  unfold jx_cc at h
  split at h
  · next k =>
    split at h
    · cases h
    · next y1 hy1 =>
      split at h
      · next o rest1 hdr =>
        split at h
        · next hc =>
          obtain ⟨rfl, hms, hcl, hfit⟩ := hc
          cases h
          simp only [jx_fit, Bool.and_eq_true, decide_eq_true_eq] at hfit
          obtain ⟨⟨⟨⟨f1, f2⟩, f3⟩, f4⟩, f5⟩ := hfit
          obtain ⟨o1, o2, o3, o4, o5, o6, o7, o8⟩ := jx_oks y' (by omega)
          rw [hms] at o8
          simp only [Bool.false_eq_true, if_false] at o8
          have hk56 := jx_klt (k := o) hcl (Nat.lt_trans o6 (by decide))
          have hlink := (jx_mlw _ (jx_ml_mem hy1)).1
          dsimp only at hlink
          refine jx_call (va_runV (C := jx_rx (jx_mo y')) (bytes := jx_mb y') (maxL := jx_mx y') (ret := jx_mr y') (b := ad o) (As := (st.take (jx_mp y')).reverse.map (jx_cv ad)) (rest := rest.map (jx_cv ad)) (n := jx_mp y') ⟨hx, hb, hml, hown, hts⟩ hM (cwV (jx_mp y') hts (jx_good (fun w hw => ?_)) rfl rfl rfl ⟨o3, o5⟩ ⟨?_, ?_⟩) ⟨jx_blind, ?_, fun U hU hW => ⟨rfl, by rw [hU]; exact hP, va_K.moved hW.alike hK⟩⟩ rfl ?_ hL.2.2.1 ?_ (lv_room (by rw [jx_sumc]; exact f4)) hd ⟨Nat.le_refl 0, Nat.le_refl 0⟩) hS kk'
          · rcases List.mem_append.mp hw with h1 | h1
            · simp only [List.mem_cons, List.not_mem_nil, or_false] at h1
              rcases h1 with rfl | rfl | rfl | rfl
              · exact hlink
              · exact o8.1
              · exact o8.2
              · rw [← o3]; exact o2
            · rcases List.mem_cons.mp h1 with rfl | h1
              · exact o1
              · exact h1
          · exact Nat.le_refl (d + 1)
          · show 8 + (jx_mx y' + 11) + 100 * d ≤ 100 * (d + 1); omega
          · exact va_recv hK hP (jx_vcl _ o6) (q0 := o) (by rw [jx_w_at hk56, jx_ce_obj (by rw [hcl]; exact o6), hcl])
          · rw [List.length_map]; exact f1
          · show st.map (jx_cv ad) = _
            rw [← List.map_reverse, List.reverse_reverse]
            have : st = st.take (jx_mp y') ++ .ref o :: rest := by rw [← hdr, List.take_append_drop]
            conv => lhs; rw [this]
            rw [List.map_append]
            rfl
        · cases h
      · cases h
  · next k =>
    split at h
    · cases h
    · next y1 hy1 =>
      split at h
      · next hc =>
        obtain ⟨rfl, hms, hfit⟩ := hc
        cases h
        simp only [jx_fit, Bool.and_eq_true, decide_eq_true_eq] at hfit
        obtain ⟨⟨⟨⟨f1, f2⟩, f3⟩, f4⟩, f5⟩ := hfit
        obtain ⟨o1, o2, o3, o4, o5, o6, o7, o8⟩ := jx_oks y' (by omega)
        rw [hms] at o8
        simp only [if_true] at o8
        have hlink := (jx_mlw _ (jx_ml_mem hy1)).1
        dsimp only at hlink
        refine jx_call (va_runS (bytes := jx_mb y') (maxL := jx_mx y') (ret := jx_mr y') (As := (st.take (jx_mp y')).reverse.map (jx_cv ad)) (rest := (st.drop (jx_mp y')).map (jx_cv ad)) (n := jx_mp y') ⟨hx, hb, hml, hown, hts⟩ hM (va_cwS (jx_mp y') hts (jx_good (fun w hw => ?_)) rfl rfl rfl o5 ⟨?_, ?_⟩) ⟨jx_blind, fun U hU hW => ⟨rfl, by rw [hU]; exact hP, va_K.moved hW.alike hK⟩⟩ rfl ?_ hL.2.2.1 ?_ (lv_room (by rw [jx_sumc]; exact f4)) hd ⟨Nat.le_refl 0, Nat.le_refl 0⟩) hS kk'
        · rcases List.mem_append.mp hw with h1 | h1
          · simp only [List.mem_cons, List.not_mem_nil, or_false] at h1
            rcases h1 with rfl | rfl | rfl
            · exact hlink
            · exact o8
            · exact o2
          · rcases List.mem_cons.mp h1 with rfl | h1
            · exact o1
            · exact h1
        · exact Nat.le_refl (d + 1)
        · show 8 + (jx_mx y' + 11) + 100 * d ≤ 100 * (d + 1); omega
        · rw [List.length_map]; exact f1
        · show st.map (jx_cv ad) = _
          rw [← List.map_reverse, List.reverse_reverse, ← List.map_append, List.take_append_drop]
      · cases h
  · cases h
theorem jx_cc_fit {i : Instr} {y' : Nat} {As rest : List Value} (h : jx_cc y i len st = some (y', As, rest)) : y' < 141 ∧ (∀ v ∈ As, v.category = 1) ∧ As.length ≤ jx_mx y' := by
  unfold jx_cc at h
  split at h
  · split at h
    · cases h
    · split at h
      · split at h
        · next hc =>
          obtain ⟨-, -, -, hfit⟩ := hc
          cases h
          simp only [jx_fit, Bool.and_eq_true, decide_eq_true_eq, List.all_eq_true] at hfit
          obtain ⟨⟨⟨⟨f1, f2⟩, f3⟩, f4⟩, f5⟩ := hfit
          refine ⟨by omega, fun v hv => ?_, by simpa using f3⟩
          rcases List.mem_cons.mp hv with rfl | hv
          · rfl
          · exact f2 v hv
        · cases h
      · cases h
  · split at h
    · cases h
    · split at h
      · next hc =>
        obtain ⟨-, -, hfit⟩ := hc
        cases h
        simp only [jx_fit, Bool.and_eq_true, decide_eq_true_eq, List.all_eq_true] at hfit
        obtain ⟨⟨⟨⟨f1, f2⟩, f3⟩, f4⟩, f5⟩ := hfit
        exact ⟨by omega, f2, f3⟩
      · cases h
  · cases h
end JXT
theorem jx_sound {l : Launch} {D : va_G} {ad : Nat → Nat} {cI cS : ClassId} (hI : jx_iltM l D ad cI cS) (hinj : jx_inj ad) : ∀ (n d y pc : Nat) (lv : List (Option Value)) (st : List Value) (M : jx_M) (r : List Value) (M' : jx_M), jx_run n d y pc lv st M = some (r, M') →
    ∀ (p : Program) (e : Env) (s : State) (m : MethodId) (args : Array Value) (below : List Frame) (meth : Method) (c : Code), jx_Cx D cI cS p s m args meth c y → jx_G D ad cI cS p l e (jx_rm d) s m args below meth c (MQ below (jx_Q D ad cI cS r M') args s 0 0 (jx_A ad)) y pc lv st M
  | 0, _, _, _, _, _, _, _, _, h => by cases h
  | n + 1, d, y, pc, lv, st, M, r, M', h => by
    intro p e s m args below meth c hC
    have h : jx_F (jx_run n) d y pc lv st M = some (r, M') := h
    unfold jx_F at h
    cases h1 : jx_ft y pc with
    | none => rw [h1] at h; cases h
    | some q =>
      obtain ⟨i, len⟩ := q
      have hd := jx_fok' h1
      rw [h1] at h
      dsimp only at h
      cases h2 : jx_rt y i len st with
      | some r => rw [h2] at h; cases h; exact jx_ret hC hd h2
      | none =>
        rw [h2] at h
        dsimp only at h
        cases h3 : jx_cc y i len st with
        | some q =>
          obtain ⟨y', As, rest⟩ := q
          rw [h3] at h
          dsimp only at h
          cases d with
          | zero => cases h
          | succ d' =>
            dsimp only at h
            cases h4 : jx_run n d' y' 0 (jx_en y' As) [] M with
            | none => rw [h4] at h; cases h
            | some q =>
              obtain ⟨r1, M1⟩ := q
              rw [h4] at h
              obtain ⟨g1, g2, g3⟩ := jx_cc_fit h3
              exact jx_inv hC hd h3 (jx_met_of g1 g2 g3 (jx_sound hI hinj n d' y' 0 _ _ _ _ _ h4)) (jx_sound hI hinj n (d' + 1) y (pc + 3) _ _ _ _ _ h p e s m args below meth c hC)
        | none =>
          rw [h3] at h
          dsimp only at h
          cases h4 : jx_st d y pc i len lv st M with
          | none => rw [h4] at h; cases h
          | some q =>
            obtain ⟨pc', lv', st', M1⟩ := q
            rw [h4] at h
            exact jx_step hI hinj hC hd h4 (jx_sound hI hinj n d y pc' lv' st' M1 r M' h p e s m args below meth c hC)
/-- a run of a method that ends gives its contract -/
theorem jx_met {l : Launch} {D : va_G} {ad : Nat → Nat} {cI cS : ClassId} (hI : jx_iltM l D ad cI cS) (hinj : jx_inj ad) {d y : Nat} {As : List Value} {M : jx_M} {Q : jx_Po} (hy : y < 141) (hc : ∀ v ∈ As, v.category = 1) (hn : As.length ≤ jx_mx y) (h : jx_Ct d y As M Q) : ∃ r M', Q r M' ∧ jx_Met l D ad cI cS d y As M r M' := by
  obtain ⟨n, r, M', h1, h2⟩ := h
  exact ⟨r, M', h2, jx_met_of hy hc hn (jx_sound hI hinj n d y 0 _ _ _ _ _ h1)⟩
