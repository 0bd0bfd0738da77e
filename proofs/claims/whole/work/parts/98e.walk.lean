/-! the law's loop and its entry (law.py) -/
theorem d_law_0 : decode code 0 = .ok (.new 7, 3) := by decide +kernel
theorem d_law_3 : decode code 3 = .ok (.dup, 1) := by decide +kernel
theorem d_law_4 : decode code 4 = .ok (.invokespecial 9, 3) := by decide +kernel
theorem d_law_7 : decode code 7 = .ok (.astore_n 1, 1) := by decide +kernel
theorem d_law_8 : decode code 8 = .ok (.new 10, 3) := by decide +kernel
theorem d_law_11 : decode code 11 = .ok (.dup, 1) := by decide +kernel
theorem d_law_12 : decode code 12 = .ok (.invokespecial 12, 3) := by decide +kernel
theorem d_law_15 : decode code 15 = .ok (.astore_n 2, 1) := by decide +kernel
theorem d_law_16 : decode code 16 = .ok (.iconst 0, 1) := by decide +kernel
theorem d_law_17 : decode code 17 = .ok (.istore_n 3, 1) := by decide +kernel
theorem d_law_18 : decode code 18 = .ok (.iload_n 3, 1) := by decide +kernel
theorem d_law_19 : decode code 19 = .ok (.aload_n 0, 1) := by decide +kernel
theorem d_law_20 : decode code 20 = .ok (.arraylength, 1) := by decide +kernel
theorem d_law_21 : decode code 21 = .ok (.bipush 6, 2) := by decide +kernel
theorem d_law_23 : decode code 23 = .ok (.isub, 1) := by decide +kernel
theorem d_law_24 : decode code 24 = .ok (.if_icmp .gt 1152, 3) := by decide +kernel
theorem d_law_27 : decode code 27 = .ok (.aload_n 0, 1) := by decide +kernel
theorem d_law_28 : decode code 28 = .ok (.iload_n 3, 1) := by decide +kernel
theorem d_law_29 : decode code 29 = .ok (.iaload, 1) := by decide +kernel
theorem d_law_30 : decode code 30 = .ok (.bipush 31, 2) := by decide +kernel
theorem d_law_32 : decode code 32 = .ok (.iand, 1) := by decide +kernel
theorem d_law_33 : decode code 33 = .ok (.tableswitch 1137 0 29 #[135, 188, 221, 254, 287, 310, 343, 376, 409, 432, 495, 528, 591, 624, 667, 690, 713, 736, 749, 793, 836, 859, 902, 946, 1009, 1032, 1055, 1088, 1101, 1114], 135) := by decide +kernel
theorem d_law_1170 : decode code 1170 = .ok (.iinc 3 6, 3) := by decide +kernel
theorem d_law_1173 : decode code 1173 = .ok (.goto (-1155), 3) := by decide +kernel
theorem d_law_1176 : decode code 1176 = .ok (.iconst 1, 1) := by decide +kernel
theorem d_law_1177 : decode code 1177 = .ok (.ireturn, 1) := by decide +kernel
theorem lw_m31 (x : Int32) : ∃ j, j < 32 ∧ x &&& 31 = nI j := by
  have e : x = nI x.toBitVec.toNat := by
    apply Int32.toBitVec_inj.1
    show x.toBitVec = BitVec.ofNat 32 x.toBitVec.toNat
    simp
  refine ⟨x.toBitVec.toNat % 32, Nat.mod_lt _ (by omega), ?_⟩
  have h := fa_mask x.toBitVec.toNat 5
  rw [← e] at h
  exact h
theorem lw_end {i L : Nat} (hL : L ≤ 384) (hi : i ≤ 400) (h : ¬ nI L - 6 < nI i) : i + 6 ≤ L := by
  by_cases h6 : 6 ≤ L
  · obtain ⟨k, rfl⟩ : ∃ k, L = k + 6 := ⟨L - 6, by omega⟩
    have e : nI (k + 6) - 6 = nI k := by
      rw [← nI_add]
      show nI k + 6 - 6 = nI k
      exact Int32.add_sub_cancel _ _
    rw [e, nI_ltI (by omega) (by omega)] at h
    omega
  · exfalso
    apply h
    apply Int32.lt_iff_toInt_lt.mpr
    rw [nI_toInt (by omega)]
    have key : ∀ L, L < 6 → (nI L - 6).toInt < 0 := by decide +kernel
    have := key L (by omega)
    omega
theorem lw_toInt : ∀ j, j < 32 → (nI j).toInt = (j : Int) := fun j h => nI_toInt (by omega)
section LWE
variable {D : va_G} {ad : Nat → Nat} {cI cS : ClassId} {p : Program} {l : Launch} {e : Env} {s : State} {m : MethodId} {below : List Frame} {meth : Method} {c : Code} {Q : State → Prop} {H : Heap} {locs : List Loc} {ls : Array Slot} {b L i : Nat} {xs : Nat → Int32} {M : jx_M}
theorem lw_sw (hx : p.tables.exec = Jvm.exec) (hb : c.code = code) : ∀ j, j < 32 → (∀ j, W p l e room_1 s m #[Value.ref b] below meth c H locs 56 900 Q (F0 m (lw_T j) ls [])) → W p l e room_1 s m #[Value.ref b] below meth c H locs 56 900 Q (F0 m 33 ls [.int (nI j)])
  | 0, h, kk => lv_tableIn (off := 135) (tgt := 168) hx hb d_law_33 (by rw [lw_toInt _ h]; decide) (by rw [lw_toInt _ h]; decide) (by rw [lw_toInt _ h]; rfl) (by decide) (kk 0)
  | 1, h, kk => lv_tableIn (off := 188) (tgt := 221) hx hb d_law_33 (by rw [lw_toInt _ h]; decide) (by rw [lw_toInt _ h]; decide) (by rw [lw_toInt _ h]; rfl) (by decide) (kk 1)
  | 2, h, kk => lv_tableIn (off := 221) (tgt := 254) hx hb d_law_33 (by rw [lw_toInt _ h]; decide) (by rw [lw_toInt _ h]; decide) (by rw [lw_toInt _ h]; rfl) (by decide) (kk 2)
  | 3, h, kk => lv_tableIn (off := 254) (tgt := 287) hx hb d_law_33 (by rw [lw_toInt _ h]; decide) (by rw [lw_toInt _ h]; decide) (by rw [lw_toInt _ h]; rfl) (by decide) (kk 3)
  | 4, h, kk => lv_tableIn (off := 287) (tgt := 320) hx hb d_law_33 (by rw [lw_toInt _ h]; decide) (by rw [lw_toInt _ h]; decide) (by rw [lw_toInt _ h]; rfl) (by decide) (kk 4)
  | 5, h, kk => lv_tableIn (off := 310) (tgt := 343) hx hb d_law_33 (by rw [lw_toInt _ h]; decide) (by rw [lw_toInt _ h]; decide) (by rw [lw_toInt _ h]; rfl) (by decide) (kk 5)
  | 6, h, kk => lv_tableIn (off := 343) (tgt := 376) hx hb d_law_33 (by rw [lw_toInt _ h]; decide) (by rw [lw_toInt _ h]; decide) (by rw [lw_toInt _ h]; rfl) (by decide) (kk 6)
  | 7, h, kk => lv_tableIn (off := 376) (tgt := 409) hx hb d_law_33 (by rw [lw_toInt _ h]; decide) (by rw [lw_toInt _ h]; decide) (by rw [lw_toInt _ h]; rfl) (by decide) (kk 7)
  | 8, h, kk => lv_tableIn (off := 409) (tgt := 442) hx hb d_law_33 (by rw [lw_toInt _ h]; decide) (by rw [lw_toInt _ h]; decide) (by rw [lw_toInt _ h]; rfl) (by decide) (kk 8)
  | 9, h, kk => lv_tableIn (off := 432) (tgt := 465) hx hb d_law_33 (by rw [lw_toInt _ h]; decide) (by rw [lw_toInt _ h]; decide) (by rw [lw_toInt _ h]; rfl) (by decide) (kk 9)
  | 10, h, kk => lv_tableIn (off := 495) (tgt := 528) hx hb d_law_33 (by rw [lw_toInt _ h]; decide) (by rw [lw_toInt _ h]; decide) (by rw [lw_toInt _ h]; rfl) (by decide) (kk 10)
  | 11, h, kk => lv_tableIn (off := 528) (tgt := 561) hx hb d_law_33 (by rw [lw_toInt _ h]; decide) (by rw [lw_toInt _ h]; decide) (by rw [lw_toInt _ h]; rfl) (by decide) (kk 11)
  | 12, h, kk => lv_tableIn (off := 591) (tgt := 624) hx hb d_law_33 (by rw [lw_toInt _ h]; decide) (by rw [lw_toInt _ h]; decide) (by rw [lw_toInt _ h]; rfl) (by decide) (kk 12)
  | 13, h, kk => lv_tableIn (off := 624) (tgt := 657) hx hb d_law_33 (by rw [lw_toInt _ h]; decide) (by rw [lw_toInt _ h]; decide) (by rw [lw_toInt _ h]; rfl) (by decide) (kk 13)
  | 14, h, kk => lv_tableIn (off := 667) (tgt := 700) hx hb d_law_33 (by rw [lw_toInt _ h]; decide) (by rw [lw_toInt _ h]; decide) (by rw [lw_toInt _ h]; rfl) (by decide) (kk 14)
  | 15, h, kk => lv_tableIn (off := 690) (tgt := 723) hx hb d_law_33 (by rw [lw_toInt _ h]; decide) (by rw [lw_toInt _ h]; decide) (by rw [lw_toInt _ h]; rfl) (by decide) (kk 15)
  | 16, h, kk => lv_tableIn (off := 713) (tgt := 746) hx hb d_law_33 (by rw [lw_toInt _ h]; decide) (by rw [lw_toInt _ h]; decide) (by rw [lw_toInt _ h]; rfl) (by decide) (kk 16)
  | 17, h, kk => lv_tableIn (off := 736) (tgt := 769) hx hb d_law_33 (by rw [lw_toInt _ h]; decide) (by rw [lw_toInt _ h]; decide) (by rw [lw_toInt _ h]; rfl) (by decide) (kk 17)
  | 18, h, kk => lv_tableIn (off := 749) (tgt := 782) hx hb d_law_33 (by rw [lw_toInt _ h]; decide) (by rw [lw_toInt _ h]; decide) (by rw [lw_toInt _ h]; rfl) (by decide) (kk 18)
  | 19, h, kk => lv_tableIn (off := 793) (tgt := 826) hx hb d_law_33 (by rw [lw_toInt _ h]; decide) (by rw [lw_toInt _ h]; decide) (by rw [lw_toInt _ h]; rfl) (by decide) (kk 19)
  | 20, h, kk => lv_tableIn (off := 836) (tgt := 869) hx hb d_law_33 (by rw [lw_toInt _ h]; decide) (by rw [lw_toInt _ h]; decide) (by rw [lw_toInt _ h]; rfl) (by decide) (kk 20)
  | 21, h, kk => lv_tableIn (off := 859) (tgt := 892) hx hb d_law_33 (by rw [lw_toInt _ h]; decide) (by rw [lw_toInt _ h]; decide) (by rw [lw_toInt _ h]; rfl) (by decide) (kk 21)
  | 22, h, kk => lv_tableIn (off := 902) (tgt := 935) hx hb d_law_33 (by rw [lw_toInt _ h]; decide) (by rw [lw_toInt _ h]; decide) (by rw [lw_toInt _ h]; rfl) (by decide) (kk 22)
  | 23, h, kk => lv_tableIn (off := 946) (tgt := 979) hx hb d_law_33 (by rw [lw_toInt _ h]; decide) (by rw [lw_toInt _ h]; decide) (by rw [lw_toInt _ h]; rfl) (by decide) (kk 23)
  | 24, h, kk => lv_tableIn (off := 1009) (tgt := 1042) hx hb d_law_33 (by rw [lw_toInt _ h]; decide) (by rw [lw_toInt _ h]; decide) (by rw [lw_toInt _ h]; rfl) (by decide) (kk 24)
  | 25, h, kk => lv_tableIn (off := 1032) (tgt := 1065) hx hb d_law_33 (by rw [lw_toInt _ h]; decide) (by rw [lw_toInt _ h]; decide) (by rw [lw_toInt _ h]; rfl) (by decide) (kk 25)
  | 26, h, kk => lv_tableIn (off := 1055) (tgt := 1088) hx hb d_law_33 (by rw [lw_toInt _ h]; decide) (by rw [lw_toInt _ h]; decide) (by rw [lw_toInt _ h]; rfl) (by decide) (kk 26)
  | 27, h, kk => lv_tableIn (off := 1088) (tgt := 1121) hx hb d_law_33 (by rw [lw_toInt _ h]; decide) (by rw [lw_toInt _ h]; decide) (by rw [lw_toInt _ h]; rfl) (by decide) (kk 27)
  | 28, h, kk => lv_tableIn (off := 1101) (tgt := 1134) hx hb d_law_33 (by rw [lw_toInt _ h]; decide) (by rw [lw_toInt _ h]; decide) (by rw [lw_toInt _ h]; rfl) (by decide) (kk 28)
  | 29, h, kk => lv_tableIn (off := 1114) (tgt := 1147) hx hb d_law_33 (by rw [lw_toInt _ h]; decide) (by rw [lw_toInt _ h]; decide) (by rw [lw_toInt _ h]; rfl) (by decide) (kk 29)
  | 30, h, kk => lv_tableOut (tgt := 1170) hx hb d_law_33 (by rw [lw_toInt _ h]; decide) (by decide) (kk 30)
  | 31, h, kk => lv_tableOut (tgt := 1170) hx hb d_law_33 (by rw [lw_toInt _ h]; decide) (by decide) (kk 31)
  | j + 32, h, _ => absurd h (by omega)
set_option maxHeartbeats 1000000 in
theorem lw_loop (C0 : lw_At p s m meth c b L xs) (hL : L ≤ 384) (hinj : jx_inj ad) (hA : ∀ k, k < 56 → lw_A s (ad k)) (hK : va_K D vwCl (jx_tys cI cS) s) : ∀ (n i : Nat) (M : jx_M) (H : Heap) (locs : List Loc) (ls : Array Slot), L + 6 - i < n → i ≤ 390 → tp_I M → va_P D vwCl (jx_w ad cI cS M) H → va_S (lw_A s) s.heap H locs →
    lv_has ls 4 [(3, .int (nI i)), (2, .ref (ad 36)), (1, .ref (ad 0)), (0, .ref b)] → W p l e room_1 s m #[Value.ref b] below meth c H locs 56 900 (lw_Z below #[Value.ref b] s) (F0 m 18 ls [])
  | 0, _, _, _, _, _, hn, _, _, _, _, _ => absurd hn (by omega)
  | n + 1, i, M, H, locs, ls, hn, hi, hT, hP, hS, hl => by
    obtain ⟨hx, hb, hr, hml, hown, hts, hX, hbl, hlocks, hgv⟩ := id C0
    have hbA : ¬ (lw_A s) b := Nat.not_le.mpr hbl
    refine lv_iload_n hx hb d_law_18 rfl (lv_at hl 0 rfl) ?_
    refine lv_aload_n hx hb d_law_19 rfl (lv_at hl 3 rfl) ?_
    refine va_slen hx hb hX hbl hbA hS d_law_20 ?_
    refine lv_bipush (v := 6) hx hb d_law_21 (by decide) ?_
    refine lv_isub hx hb d_law_23 ?_
    refine lv_icmp_gt (tgt := 1176) hx hb d_law_24 (by decide) (fun q => ?_) (fun q => ?_)
    · refine lv_iconst (v := 1) hx hb d_law_1176 (by decide) ?_
      refine va_forget (fun q hq => hS.2.2 q hq) ?_
      refine W.widen (k := 600000) (n := 7302250) (by decide) (by decide) ?_
      exact lw_ret hx hb hr hlocks d_law_1177
    · have hiL : i + 6 ≤ L := lw_end hL (by omega) q
      refine lv_aload_n hx hb d_law_27 rfl (lv_at hl 3 rfl) ?_
      refine lv_iload_n hx hb d_law_28 rfl (lv_at hl 0 rfl) ?_
      refine va_sld hx hb hX hbl hbA hS (vp_in_nI (by omega) (by omega)) d_law_29 ?_
      refine lv_bipush (v := 31) hx hb d_law_30 (by decide) ?_
      refine lv_iand hx hb d_law_32 ?_
      obtain ⟨j, hj, ej⟩ := lw_m31 (xs (nI i).toNatClampNeg)
      rw [ej]
      refine lw_sw hx hb j hj (lw_case C0 hL hinj hA hK hl hiL hT hP hS (fun M2 H2 locs2 hT2 hP2 hS2 => ?_))
      refine lv_iinc (v := nI (i + 6)) (lv' := [(3, .int (nI (i + 6))), (2, .ref (ad 36)), (1, .ref (ad 0)), (0, .ref b)]) hx hb d_law_1170 hl (k := 0) rfl (by rw [← nI_add]; rfl) (by decide) rfl (fun ls' hl' => ?_)
      refine lv_goto (tgt := 18) hx hb d_law_1173 (by decide) ?_
      exact lw_loop C0 hL hinj hA hK n (i + 6) M2 H2 locs2 ls' (by omega) (by omega) hT2 hP2 hS2 hl'
end LWE
set_option maxRecDepth 100000 in
theorem lw_N7 {s : State} {args : Array Value} (hts : ∀ w ∈ lw_tbl, w.before args s = true) : jx_N7 s := ⟨va_AO.of (hts (.arrayOver (.object RX4)) (List.mem_of_getElem? (i := 64) rfl)), va_Nw.of rfl (hts (.methodLinkNest RX7 19 yX6_init RX7) (List.mem_of_getElem? (i := 67) rfl)), va_Nw.of rfl (hts (.methodLinkNest RX7 26 yX3_init RX7) (List.mem_of_getElem? (i := 89) rfl)), va_Nw.of rfl (hts (.methodLinkNest RX7 33 yX2_init RX7) (List.mem_of_getElem? (i := 110) rfl)), va_Nw.of rfl (hts (.methodLinkNest RX7 40 yX0_init RX7) (List.mem_of_getElem? (i := 120) rfl)), va_Nw.of rfl (hts (.methodLinkNest RX7 47 yX5_init RX7) (List.mem_of_getElem? (i := 147) rfl)), va_Nw.of rfl (hts (.methodLinkNest RX7 54 yX1_init RX7) (List.mem_of_getElem? (i := 167) rfl)), va_Nw.of rfl (hts (.methodLinkNest RX7 69 yX4_init RX7) (List.mem_of_getElem? (i := 223) rfl))⟩
theorem lw_N7c {U V : State} (h : U.vm = V.vm) (q : jx_N7 U) : jx_N7 V := by
  obtain ⟨a, b1, b2, b3, b4, b5, b6, b7⟩ := q
  exact ⟨va_AO.moved (by rw [h]; exact Vm.Alike.refl V.vm) a, va_Nw.same rfl h b1, va_Nw.same rfl h b2, va_Nw.same rfl h b3, va_Nw.same rfl h b4, va_Nw.same rfl h b5, va_Nw.same rfl h b6, va_Nw.same rfl h b7⟩
theorem lw_N7w {s U : State} (hW : s.WarmedH U.vm) (q : jx_N7 s) : jx_N7 U := by
  obtain ⟨a, b1, b2, b3, b4, b5, b6, b7⟩ := q
  exact ⟨va_AO.moved hW.alike a, va_Nw.warmM hW b1, va_Nw.warmM hW b2, va_Nw.warmM hW b3, va_Nw.warmM hW b4, va_Nw.warmM hW b5, va_Nw.warmM hW b6, va_Nw.warmM hW b7⟩
set_option maxRecDepth 100000 in
theorem lw_D {s : State} {args : Array Value} (hts : ∀ w ∈ jx_TB, w.before args s = true) : ∃ (D : va_G), ∀ tys : List (ClassId × FieldType), (∀ (k : Nat) (q : ClassId × FieldType), tys[k]? = some q → ArrOfT s q.1 q.2 ∧ va_RA s q.1 q.2) → va_K D vwCl tys s := by
  obtain ⟨c0, i0, h0⟩ := u_known (C := RX0) (T := TX0) (N := 6) (n := 6) hts (jx_cin 0 (by decide)) (hts (.instantiable RX0 6) (jx_mem 119 rfl rfl))
  obtain ⟨c1, i1, h1⟩ := u_known (C := RX1) (T := TX1) (N := 9) (n := 9) hts (jx_cin 1 (by decide)) (hts (.instantiable RX1 9) (jx_mem 166 rfl rfl))
  obtain ⟨c2, i2, h2⟩ := u_known (C := RX2) (T := TX2) (N := 1) (n := 1) hts (jx_cin 2 (by decide)) (hts (.instantiable RX2 1) (jx_mem 109 rfl rfl))
  obtain ⟨c3, i3, h3⟩ := u_known (C := RX3) (T := TX3) (N := 4) (n := 4) hts (jx_cin 3 (by decide)) (hts (.instantiable RX3 4) (jx_mem 88 rfl rfl))
  obtain ⟨c4, i4, h4⟩ := u_known (C := RX4) (T := TX4) (N := 4) (n := 4) hts (jx_cin 4 (by decide)) (hts (.instantiable RX4 4) (jx_mem 222 rfl rfl))
  obtain ⟨c5, i5, h5⟩ := u_known (C := RX5) (T := TX5) (N := 4) (n := 4) hts (jx_cin 5 (by decide)) (hts (.instantiable RX5 4) (jx_mem 146 rfl rfl))
  obtain ⟨c6, i6, h6⟩ := u_known (C := RX6) (T := TX6) (N := 5) (n := 5) hts (jx_cin 6 (by decide)) (hts (.instantiable RX6 5) (jx_mem 66 rfl rfl))
  obtain ⟨c7, i7, h7⟩ := u_known (C := RX7) (T := TX7) (N := 10) (n := 10) hts (jx_cin 7 (by decide)) (hts (.instantiable RX7 10) (jx_mem 56 rfl rfl))
  obtain ⟨c8, i8, h8⟩ := u_known (C := RX8) (T := TX8) (N := 31) (n := 31) hts (jx_cin 8 (by decide)) (hts (.instantiable RX8 31) (jx_mem 636 rfl rfl))
  refine ⟨(fun k => [c0, c1, c2, c3, c4, c5, c6, c7, c8].getD k c0, fun k => [i0, i1, i2, i3, i4, i5, i6, i7, i8].getD k i0), fun tys ht => ⟨fun k q hq => ?_, ht⟩⟩
  match k, hq with
  | 0, hq => cases hq; exact h0
  | 1, hq => cases hq; exact h1
  | 2, hq => cases hq; exact h2
  | 3, hq => cases hq; exact h3
  | 4, hq => cases hq; exact h4
  | 5, hq => cases hq; exact h5
  | 6, hq => cases hq; exact h6
  | 7, hq => cases hq; exact h7
  | 8, hq => cases hq; exact h8
  | k + 9, hq => simp [vwCl] at hq
set_option maxRecDepth 100000 in
theorem lw_cls {s : State} {args : Array Value} (hts : ∀ w ∈ jx_TB, w.before args s = true) : ∃ (D : va_G) (cI : ClassId), va_K D vwCl [(cI, .int)] s := by
  obtain ⟨D, hD⟩ := lw_D hts
  obtain ⟨cI, kA, comp, f1, f2, f3⟩ := Cond.arrayClass_spec (hts (.arrayClass .int) (jx_mem 107 rfl rfl))
  refine ⟨D, cI, hD _ (fun k q hk => ?_)⟩
  have hz : k < 1 := (List.getElem?_eq_some_iff.mp hk).1
  rw [show k = 0 by omega] at hk
  cases hk
  exact ⟨fun n z => ⟨fun k h => (by cases h), kA, f2, comp, f3⟩, f1⟩
set_option maxRecDepth 100000 in
theorem jx_gC7 : GoodIn jx_TB (Cond.code yX7_init cX7_init 2 none :: jx_TB) := jx_good (fun w hw => by
  rcases List.mem_cons.mp hw with rfl | h
  · exact jx_mem 59 rfl rfl
  · exact h)
set_option maxRecDepth 100000 in
theorem jx_gC8 : GoodIn jx_TB (Cond.code yX8_init cX8_init 1 none :: jx_TB) := jx_good (fun w hw => by
  rcases List.mem_cons.mp hw with rfl | h
  · exact jx_mem 639 rfl rfl
  · exact h)
set_option maxHeartbeats 4000000 in
set_option maxRecDepth 100000 in
theorem whole_start {p : Program} {e : Env} {s : State} {m : MethodId} {below : List Frame} {meth : Method} {c : Code} (l : Launch) {b L : Nat} {xs : Nat → Int32} (hL : L ≤ 384) (C0 : lw_At p s m meth c b L xs) : W p l e room_1 s m #[Value.ref b] below meth c s.heap [] 0 0 (lw_Z below #[Value.ref b] s) (entryFrame m ([Value.ref b] : List Value).toArray 4) := by
  obtain ⟨hx, hb, hr, hml, hown, hts, hX, hbl, hlocks, hgv⟩ := id C0
  have hts' : ∀ w ∈ jx_TB, w.before #[Value.ref b] s = true := fun w hw => hts w (List.mem_filter.mp hw).1
  have hA : ∀ q : Nat, s.heap.size ≤ q → (lw_A s) q := fun _ h => h
  obtain ⟨D, cI, hK⟩ := lw_cls hts'
  have hN7 := lw_N7 hts
  have hS : va_S (lw_A s) s.heap s.heap [] := va_S.rf
  have hP : va_P D vwCl [] s.heap := fun k q h => by simp at h
  have hD : va_D (lw_A s) [] := ⟨fun i j p q h => by simp at h, fun k q h => by simp at h⟩
  have hl := lv_entry ([.ref b]) (n := 4) (Nat.le_of_ble_eq_true rfl)
  rw [lg_entry_eq]
  generalize (lg_sl ([.ref b]) ++ List.replicate (4 - (lg_sl ([.ref b])).length) Slot.unset).toArray = ls at hl ⊢
  have hl : lv_has ls 4 [(0, .ref b)] := hl
  refine va_new (ci := 7) (fs := [.null, .null, .null, .null, .null, .null, .null, .null, .int 0, .int 0]) (C := RX7) (T := TX7) (N := 10) hx hb hts' (jx_cin 7 (by decide)) tyX7 tyX7_ok hown (hts' (.classLink R_law 7 RX7) (jx_mem 55 rfl rfl)) (hts' (.instantiable RX7 10) (jx_mem 56 rfl rfl)) (hts' (.initialized RX7) (jx_mem 44 rfl rfl)) hK hP hD hS hA rfl (fun j hj => by rcases (show j = 0 ∨ j = 1 ∨ j = 2 ∨ j = 3 ∨ j = 4 ∨ j = 5 ∨ j = 6 ∨ j = 7 ∨ j = 8 ∨ j = 9 by omega) with rfl | rfl | rfl | rfl | rfl | rfl | rfl | rfl | rfl | rfl <;> rfl) (by decide) (by decide) d_law_0 (fun h0 H hP hD hS => ?_)
  have hP : va_P D vwCl [(h0, .inr (7, [.null, .null, .null, .null, .null, .null, .null, .null, .int 0, .int 0]))] H := hP
  have hD : va_D (lw_A s) [(h0, .inr (7, [.null, .null, .null, .null, .null, .null, .null, .null, .int 0, .int 0]))] := hD
  refine lv_dup hx hb d_law_3 rfl ?_
  have hFc := va_free (wc := [(h0, .inr (7, [.null, .null, .null, .null, .null, .null, .null, .null, .int 0, .int 0]))]) hD hS hA [0] rfl
  refine va_callv (va_runI (As := []) (rest := [.ref h0]) ⟨hx, hb, hml, hown, hts'⟩ (kcX7 l D cI h0 H.size) (cwI 0 hts' jx_gC7 rfl rfl rfl (hts' (.initialized RX7) (jx_mem 44 rfl rfl)) (hts' (.methodLink R_law 9 yX7_init) (jx_mem 57 rfl rfl)) (hts' (.instanceMethod yX7_init) (jx_mem 58 rfl rfl)) rfl ⟨by decide, by decide, by decide +kernel⟩ ⟨Nat.le_of_ble_eq_true rfl, Nat.le_of_ble_eq_true rfl⟩) ⟨fun a U g mk q => by obtain ⟨q0, q1, q2, qP, qK, qD⟩ := q; exact ⟨q0, q1, lw_N7c (U := U) (V := U.calling g mk a) rfl q2, qP, va_K.moved (u := U) (U := U.calling g mk a) (Vm.Alike.refl U.vm) qK, qD⟩, fun U hU hW => ⟨rfl, by rw [hU], lw_N7w hW hN7, by rw [hU]; exact hP, va_K.moved hW.alike hK, hD.weaken (fun _ _ _ _ => trivial)⟩⟩ rfl rfl hl.1 rfl (lv_room (Nat.le_of_ble_eq_true rfl)) d_law_4 ⟨by decide, by decide⟩) hS (fun q _ h => hFc q h) hFc (fun u t H1 locs he hvm hw hB hz1 hk1 hS => ?_)
  obtain ⟨cS, q0, q1, q2, q3, q4, q5, q6, q7, q8, q9, q10, q11, q12, q13, q14, q15, q16, q17, q18, q19, q20, q21, q22, q23, q24, q25, q26, q27, q28, q29, q30, q31, q32, q33, q34, hP1, hK1, hD1⟩ := hB
  rw [he] at hP1
  have hK := va_K.moved hvm.symm hK1
  obtain ⟨hP, hD⟩ := va_join (wr := []) hP hD [0] [] rfl rfl (by decide) (by decide) hk1 hFc hP1 hD1
  generalize H1 = H at hP hS ⊢
  have hP : va_P D vwCl [(h0, .inr (7, [.ref q0, .ref q1, .ref q2, .ref q6, .ref q8, .ref q12, .ref q15, .ref q21, .int 0, .int 0])), (q0, .inl (cS, 4, .inr (.inr (.inr (.inr (va_up (va_up (va_up (va_up (fun _ => none) (0 : Int32).toNatClampNeg (some q27)) (1 : Int32).toNatClampNeg (some q29)) (2 : Int32).toNatClampNeg (some q31)) (3 : Int32).toNatClampNeg (some q33))))))), (q1, .inr (6, [.null, .null, .int 0, .int 0, .int 0])), (q2, .inr (3, [.ref q3, .ref q4, .ref q5, .int 0])), (q3, .inl (cI, 8, .inl (fun _ => 0))), (q4, .inl (cI, 8, .inl (fun _ => 0))), (q5, .inl (cI, 8, .inl (fun _ => 0))), (q6, .inr (2, [.ref q7])), (q7, .inl (cI, 6, .inl (fun _ => 0))), (q8, .inr (0, [.ref q9, .int 0, .ref q10, .ref q11, .null, .int 0])), (q9, .inl (cI, 6, .inl (fun _ => 0))), (q10, .inl (cI, 6, .inl (fun _ => 0))), (q11, .inl (cI, 4, .inl (fun _ => 0))), (q12, .inr (5, [.ref q13, .ref q14, .int 0, .int 0])), (q13, .inl (cI, 20, .inl (fun _ => 0))), (q14, .inl (cI, 6, .inl (fun _ => 0))), (q15, .inr (1, [.ref q16, .ref q17, .ref q18, .ref q19, .ref q20, .int 0, .int 0, .int 0, .int 0])), (q16, .inl (cI, 5, .inl (fun _ => 0))), (q17, .inl (cI, 5, .inl (fun _ => 0))), (q18, .inl (cI, 6, .inl (fun _ => 0))), (q19, .inl (cI, 6, .inl (fun _ => 0))), (q20, .inl (cI, 6, .inl (fun _ => 0))), (q21, .inr (1, [.ref q22, .ref q23, .ref q24, .ref q25, .ref q26, .int 0, .int 0, .int 0, .int 0])), (q22, .inl (cI, 5, .inl (fun _ => 0))), (q23, .inl (cI, 5, .inl (fun _ => 0))), (q24, .inl (cI, 6, .inl (fun _ => 0))), (q25, .inl (cI, 6, .inl (fun _ => 0))), (q26, .inl (cI, 6, .inl (fun _ => 0))), (q27, .inr (4, [.ref q28, .int 0, .int 0, .int 0])), (q28, .inl (cI, 60, .inl (fun _ => 0))), (q29, .inr (4, [.ref q30, .int 0, .int 0, .int 0])), (q30, .inl (cI, 60, .inl (fun _ => 0))), (q31, .inr (4, [.ref q32, .int 0, .int 0, .int 0])), (q32, .inl (cI, 60, .inl (fun _ => 0))), (q33, .inr (4, [.ref q34, .int 0, .int 0, .int 0])), (q34, .inl (cI, 60, .inl (fun _ => 0)))] H := hP
  have hD : va_D (lw_A s) [(h0, .inr (7, [.ref q0, .ref q1, .ref q2, .ref q6, .ref q8, .ref q12, .ref q15, .ref q21, .int 0, .int 0])), (q0, .inl (cS, 4, .inr (.inr (.inr (.inr (va_up (va_up (va_up (va_up (fun _ => none) (0 : Int32).toNatClampNeg (some q27)) (1 : Int32).toNatClampNeg (some q29)) (2 : Int32).toNatClampNeg (some q31)) (3 : Int32).toNatClampNeg (some q33))))))), (q1, .inr (6, [.null, .null, .int 0, .int 0, .int 0])), (q2, .inr (3, [.ref q3, .ref q4, .ref q5, .int 0])), (q3, .inl (cI, 8, .inl (fun _ => 0))), (q4, .inl (cI, 8, .inl (fun _ => 0))), (q5, .inl (cI, 8, .inl (fun _ => 0))), (q6, .inr (2, [.ref q7])), (q7, .inl (cI, 6, .inl (fun _ => 0))), (q8, .inr (0, [.ref q9, .int 0, .ref q10, .ref q11, .null, .int 0])), (q9, .inl (cI, 6, .inl (fun _ => 0))), (q10, .inl (cI, 6, .inl (fun _ => 0))), (q11, .inl (cI, 4, .inl (fun _ => 0))), (q12, .inr (5, [.ref q13, .ref q14, .int 0, .int 0])), (q13, .inl (cI, 20, .inl (fun _ => 0))), (q14, .inl (cI, 6, .inl (fun _ => 0))), (q15, .inr (1, [.ref q16, .ref q17, .ref q18, .ref q19, .ref q20, .int 0, .int 0, .int 0, .int 0])), (q16, .inl (cI, 5, .inl (fun _ => 0))), (q17, .inl (cI, 5, .inl (fun _ => 0))), (q18, .inl (cI, 6, .inl (fun _ => 0))), (q19, .inl (cI, 6, .inl (fun _ => 0))), (q20, .inl (cI, 6, .inl (fun _ => 0))), (q21, .inr (1, [.ref q22, .ref q23, .ref q24, .ref q25, .ref q26, .int 0, .int 0, .int 0, .int 0])), (q22, .inl (cI, 5, .inl (fun _ => 0))), (q23, .inl (cI, 5, .inl (fun _ => 0))), (q24, .inl (cI, 6, .inl (fun _ => 0))), (q25, .inl (cI, 6, .inl (fun _ => 0))), (q26, .inl (cI, 6, .inl (fun _ => 0))), (q27, .inr (4, [.ref q28, .int 0, .int 0, .int 0])), (q28, .inl (cI, 60, .inl (fun _ => 0))), (q29, .inr (4, [.ref q30, .int 0, .int 0, .int 0])), (q30, .inl (cI, 60, .inl (fun _ => 0))), (q31, .inr (4, [.ref q32, .int 0, .int 0, .int 0])), (q32, .inl (cI, 60, .inl (fun _ => 0))), (q33, .inr (4, [.ref q34, .int 0, .int 0, .int 0])), (q34, .inl (cI, 60, .inl (fun _ => 0)))] := hD
  clear hP1 hD1 hk1 hFc hw hz1 he hvm hK1
  refine lv_astore_n (lv' := [(1, .ref h0), (0, .ref b)]) hx hb d_law_7 rfl hl (by decide) rfl (fun ls hl => ?_)
  refine va_new (ci := 8) (fs := [.int 0, .int 0, .null, .null, .null, .int 0, .int 0, .int 0, .int 0, .null, .null, .null, .null, .null, .int 0, .int 0, .int 0, .int 0, .int 0, .null, .null, .null, .null, .null, .null, .null, .null, .int 0, .null, .null, .null]) (C := RX8) (T := TX8) (N := 31) hx hb hts' (jx_cin 8 (by decide)) tyX8 tyX8_ok hown (hts' (.classLink R_law 10 RX8) (jx_mem 635 rfl rfl)) (hts' (.instantiable RX8 31) (jx_mem 636 rfl rfl)) (hts' (.initialized RX8) (jx_mem 52 rfl rfl)) hK hP hD hS hA rfl (fun j hj => by rcases (show j = 0 ∨ j = 1 ∨ j = 2 ∨ j = 3 ∨ j = 4 ∨ j = 5 ∨ j = 6 ∨ j = 7 ∨ j = 8 ∨ j = 9 ∨ j = 10 ∨ j = 11 ∨ j = 12 ∨ j = 13 ∨ j = 14 ∨ j = 15 ∨ j = 16 ∨ j = 17 ∨ j = 18 ∨ j = 19 ∨ j = 20 ∨ j = 21 ∨ j = 22 ∨ j = 23 ∨ j = 24 ∨ j = 25 ∨ j = 26 ∨ j = 27 ∨ j = 28 ∨ j = 29 ∨ j = 30 by omega) with rfl | rfl | rfl | rfl | rfl | rfl | rfl | rfl | rfl | rfl | rfl | rfl | rfl | rfl | rfl | rfl | rfl | rfl | rfl | rfl | rfl | rfl | rfl | rfl | rfl | rfl | rfl | rfl | rfl | rfl | rfl <;> rfl) (by decide) (by decide) d_law_8 (fun m0 H hP hD hS => ?_)
  have hP : va_P D vwCl [(h0, .inr (7, [.ref q0, .ref q1, .ref q2, .ref q6, .ref q8, .ref q12, .ref q15, .ref q21, .int 0, .int 0])), (q0, .inl (cS, 4, .inr (.inr (.inr (.inr (va_up (va_up (va_up (va_up (fun _ => none) (0 : Int32).toNatClampNeg (some q27)) (1 : Int32).toNatClampNeg (some q29)) (2 : Int32).toNatClampNeg (some q31)) (3 : Int32).toNatClampNeg (some q33))))))), (q1, .inr (6, [.null, .null, .int 0, .int 0, .int 0])), (q2, .inr (3, [.ref q3, .ref q4, .ref q5, .int 0])), (q3, .inl (cI, 8, .inl (fun _ => 0))), (q4, .inl (cI, 8, .inl (fun _ => 0))), (q5, .inl (cI, 8, .inl (fun _ => 0))), (q6, .inr (2, [.ref q7])), (q7, .inl (cI, 6, .inl (fun _ => 0))), (q8, .inr (0, [.ref q9, .int 0, .ref q10, .ref q11, .null, .int 0])), (q9, .inl (cI, 6, .inl (fun _ => 0))), (q10, .inl (cI, 6, .inl (fun _ => 0))), (q11, .inl (cI, 4, .inl (fun _ => 0))), (q12, .inr (5, [.ref q13, .ref q14, .int 0, .int 0])), (q13, .inl (cI, 20, .inl (fun _ => 0))), (q14, .inl (cI, 6, .inl (fun _ => 0))), (q15, .inr (1, [.ref q16, .ref q17, .ref q18, .ref q19, .ref q20, .int 0, .int 0, .int 0, .int 0])), (q16, .inl (cI, 5, .inl (fun _ => 0))), (q17, .inl (cI, 5, .inl (fun _ => 0))), (q18, .inl (cI, 6, .inl (fun _ => 0))), (q19, .inl (cI, 6, .inl (fun _ => 0))), (q20, .inl (cI, 6, .inl (fun _ => 0))), (q21, .inr (1, [.ref q22, .ref q23, .ref q24, .ref q25, .ref q26, .int 0, .int 0, .int 0, .int 0])), (q22, .inl (cI, 5, .inl (fun _ => 0))), (q23, .inl (cI, 5, .inl (fun _ => 0))), (q24, .inl (cI, 6, .inl (fun _ => 0))), (q25, .inl (cI, 6, .inl (fun _ => 0))), (q26, .inl (cI, 6, .inl (fun _ => 0))), (q27, .inr (4, [.ref q28, .int 0, .int 0, .int 0])), (q28, .inl (cI, 60, .inl (fun _ => 0))), (q29, .inr (4, [.ref q30, .int 0, .int 0, .int 0])), (q30, .inl (cI, 60, .inl (fun _ => 0))), (q31, .inr (4, [.ref q32, .int 0, .int 0, .int 0])), (q32, .inl (cI, 60, .inl (fun _ => 0))), (q33, .inr (4, [.ref q34, .int 0, .int 0, .int 0])), (q34, .inl (cI, 60, .inl (fun _ => 0))), (m0, .inr (8, [.int 0, .int 0, .null, .null, .null, .int 0, .int 0, .int 0, .int 0, .null, .null, .null, .null, .null, .int 0, .int 0, .int 0, .int 0, .int 0, .null, .null, .null, .null, .null, .null, .null, .null, .int 0, .null, .null, .null]))] H := hP
  have hD : va_D (lw_A s) [(h0, .inr (7, [.ref q0, .ref q1, .ref q2, .ref q6, .ref q8, .ref q12, .ref q15, .ref q21, .int 0, .int 0])), (q0, .inl (cS, 4, .inr (.inr (.inr (.inr (va_up (va_up (va_up (va_up (fun _ => none) (0 : Int32).toNatClampNeg (some q27)) (1 : Int32).toNatClampNeg (some q29)) (2 : Int32).toNatClampNeg (some q31)) (3 : Int32).toNatClampNeg (some q33))))))), (q1, .inr (6, [.null, .null, .int 0, .int 0, .int 0])), (q2, .inr (3, [.ref q3, .ref q4, .ref q5, .int 0])), (q3, .inl (cI, 8, .inl (fun _ => 0))), (q4, .inl (cI, 8, .inl (fun _ => 0))), (q5, .inl (cI, 8, .inl (fun _ => 0))), (q6, .inr (2, [.ref q7])), (q7, .inl (cI, 6, .inl (fun _ => 0))), (q8, .inr (0, [.ref q9, .int 0, .ref q10, .ref q11, .null, .int 0])), (q9, .inl (cI, 6, .inl (fun _ => 0))), (q10, .inl (cI, 6, .inl (fun _ => 0))), (q11, .inl (cI, 4, .inl (fun _ => 0))), (q12, .inr (5, [.ref q13, .ref q14, .int 0, .int 0])), (q13, .inl (cI, 20, .inl (fun _ => 0))), (q14, .inl (cI, 6, .inl (fun _ => 0))), (q15, .inr (1, [.ref q16, .ref q17, .ref q18, .ref q19, .ref q20, .int 0, .int 0, .int 0, .int 0])), (q16, .inl (cI, 5, .inl (fun _ => 0))), (q17, .inl (cI, 5, .inl (fun _ => 0))), (q18, .inl (cI, 6, .inl (fun _ => 0))), (q19, .inl (cI, 6, .inl (fun _ => 0))), (q20, .inl (cI, 6, .inl (fun _ => 0))), (q21, .inr (1, [.ref q22, .ref q23, .ref q24, .ref q25, .ref q26, .int 0, .int 0, .int 0, .int 0])), (q22, .inl (cI, 5, .inl (fun _ => 0))), (q23, .inl (cI, 5, .inl (fun _ => 0))), (q24, .inl (cI, 6, .inl (fun _ => 0))), (q25, .inl (cI, 6, .inl (fun _ => 0))), (q26, .inl (cI, 6, .inl (fun _ => 0))), (q27, .inr (4, [.ref q28, .int 0, .int 0, .int 0])), (q28, .inl (cI, 60, .inl (fun _ => 0))), (q29, .inr (4, [.ref q30, .int 0, .int 0, .int 0])), (q30, .inl (cI, 60, .inl (fun _ => 0))), (q31, .inr (4, [.ref q32, .int 0, .int 0, .int 0])), (q32, .inl (cI, 60, .inl (fun _ => 0))), (q33, .inr (4, [.ref q34, .int 0, .int 0, .int 0])), (q34, .inl (cI, 60, .inl (fun _ => 0))), (m0, .inr (8, [.int 0, .int 0, .null, .null, .null, .int 0, .int 0, .int 0, .int 0, .null, .null, .null, .null, .null, .int 0, .int 0, .int 0, .int 0, .int 0, .null, .null, .null, .null, .null, .null, .null, .null, .int 0, .null, .null, .null]))] := hD
  refine lv_dup hx hb d_law_11 rfl ?_
  have hPc := hP.sub (ws' := [(m0, .inr (8, [.int 0, .int 0, .null, .null, .null, .int 0, .int 0, .int 0, .int 0, .null, .null, .null, .null, .null, .int 0, .int 0, .int 0, .int 0, .int 0, .null, .null, .null, .null, .null, .null, .null, .null, .int 0, .null, .null, .null]))]) [36] rfl
  have hDc := hD.sub (ws' := [(m0, .inr (8, [.int 0, .int 0, .null, .null, .null, .int 0, .int 0, .int 0, .int 0, .null, .null, .null, .null, .null, .int 0, .int 0, .int 0, .int 0, .int 0, .null, .null, .null, .null, .null, .null, .null, .null, .int 0, .null, .null, .null]))]) [36] (by decide) rfl
  have hKc := hK.sub (tys' := [(cI, .int)]) [0] rfl
  have hFc := va_free (wc := [(m0, .inr (8, [.int 0, .int 0, .null, .null, .null, .int 0, .int 0, .int 0, .int 0, .null, .null, .null, .null, .null, .int 0, .int 0, .int 0, .int 0, .int 0, .null, .null, .null, .null, .null, .null, .null, .null, .int 0, .null, .null, .null]))]) hD hS hA [36] rfl
  refine va_callv (va_runI (As := []) (rest := [.ref m0]) ⟨hx, hb, hml, hown, hts'⟩ (kcX8 l D cI m0 H.size) (cwI 0 hts' jx_gC8 rfl rfl rfl (hts' (.initialized RX8) (jx_mem 52 rfl rfl)) (hts' (.methodLink R_law 12 yX8_init) (jx_mem 637 rfl rfl)) (hts' (.instanceMethod yX8_init) (jx_mem 638 rfl rfl)) rfl ⟨by decide, by decide, by decide +kernel⟩ ⟨Nat.le_of_ble_eq_true rfl, Nat.le_of_ble_eq_true rfl⟩) ⟨fun a U g mk q => by obtain ⟨q0, q1, qP, qK, qD⟩ := q; exact ⟨q0, q1, qP, va_K.moved (u := U) (U := U.calling g mk a) (Vm.Alike.refl U.vm) qK, qD⟩, fun U hU hW => ⟨rfl, by rw [hU], by rw [hU]; exact hPc, va_K.moved hW.alike hKc, hDc.weaken (fun _ _ _ _ => trivial)⟩⟩ rfl rfl hl.1 rfl (lv_room (Nat.le_of_ble_eq_true rfl)) d_law_12 ⟨by decide, by decide⟩) hS (fun q _ h => hFc q h) hFc (fun u t H1 locs he hvm hw hB hz1 hk1 hS => ?_)
  obtain ⟨r0, r1, r2, r3, r4, r5, r6, r7, r8, r9, r10, r11, r12, r13, r14, r15, r16, r17, r18⟩ := u
  obtain ⟨hP1, hK1, hD1⟩ := hB
  rw [he] at hP1
  obtain ⟨hP, hD⟩ := va_join (wr := [(h0, .inr (7, [.ref q0, .ref q1, .ref q2, .ref q6, .ref q8, .ref q12, .ref q15, .ref q21, .int 0, .int 0])), (q0, .inl (cS, 4, .inr (.inr (.inr (.inr (va_up (va_up (va_up (va_up (fun _ => none) (0 : Int32).toNatClampNeg (some q27)) (1 : Int32).toNatClampNeg (some q29)) (2 : Int32).toNatClampNeg (some q31)) (3 : Int32).toNatClampNeg (some q33))))))), (q1, .inr (6, [.null, .null, .int 0, .int 0, .int 0])), (q2, .inr (3, [.ref q3, .ref q4, .ref q5, .int 0])), (q3, .inl (cI, 8, .inl (fun _ => 0))), (q4, .inl (cI, 8, .inl (fun _ => 0))), (q5, .inl (cI, 8, .inl (fun _ => 0))), (q6, .inr (2, [.ref q7])), (q7, .inl (cI, 6, .inl (fun _ => 0))), (q8, .inr (0, [.ref q9, .int 0, .ref q10, .ref q11, .null, .int 0])), (q9, .inl (cI, 6, .inl (fun _ => 0))), (q10, .inl (cI, 6, .inl (fun _ => 0))), (q11, .inl (cI, 4, .inl (fun _ => 0))), (q12, .inr (5, [.ref q13, .ref q14, .int 0, .int 0])), (q13, .inl (cI, 20, .inl (fun _ => 0))), (q14, .inl (cI, 6, .inl (fun _ => 0))), (q15, .inr (1, [.ref q16, .ref q17, .ref q18, .ref q19, .ref q20, .int 0, .int 0, .int 0, .int 0])), (q16, .inl (cI, 5, .inl (fun _ => 0))), (q17, .inl (cI, 5, .inl (fun _ => 0))), (q18, .inl (cI, 6, .inl (fun _ => 0))), (q19, .inl (cI, 6, .inl (fun _ => 0))), (q20, .inl (cI, 6, .inl (fun _ => 0))), (q21, .inr (1, [.ref q22, .ref q23, .ref q24, .ref q25, .ref q26, .int 0, .int 0, .int 0, .int 0])), (q22, .inl (cI, 5, .inl (fun _ => 0))), (q23, .inl (cI, 5, .inl (fun _ => 0))), (q24, .inl (cI, 6, .inl (fun _ => 0))), (q25, .inl (cI, 6, .inl (fun _ => 0))), (q26, .inl (cI, 6, .inl (fun _ => 0))), (q27, .inr (4, [.ref q28, .int 0, .int 0, .int 0])), (q28, .inl (cI, 60, .inl (fun _ => 0))), (q29, .inr (4, [.ref q30, .int 0, .int 0, .int 0])), (q30, .inl (cI, 60, .inl (fun _ => 0))), (q31, .inr (4, [.ref q32, .int 0, .int 0, .int 0])), (q32, .inl (cI, 60, .inl (fun _ => 0))), (q33, .inr (4, [.ref q34, .int 0, .int 0, .int 0])), (q34, .inl (cI, 60, .inl (fun _ => 0)))]) hP hD [36] [0, 1, 2, 3, 4, 5, 6, 7, 8, 9, 10, 11, 12, 13, 14, 15, 16, 17, 18, 19, 20, 21, 22, 23, 24, 25, 26, 27, 28, 29, 30, 31, 32, 33, 34, 35] rfl rfl (by decide) (by decide) hk1 hFc hP1 hD1
  generalize H1 = H at hP hS ⊢
  clear hP1 hD1 hk1 hFc hw hz1 he hvm hK1 hPc hDc hKc
  obtain ⟨ad, hinj, hAd, e0, e36, hPw⟩ := jx_bridge (cI := cI) (cS := cS) hP hD
  refine W.widen (k := 56) (n := 900) (by decide) (by decide) ?_
  refine lv_astore_n (lv' := [(2, .ref m0), (1, .ref h0), (0, .ref b)]) hx hb d_law_15 rfl hl (by decide) rfl (fun ls hl => ?_)
  refine lv_iconst (v := nI 0) hx hb d_law_16 (by decide) ?_
  refine lv_istore_n (lv' := [(3, .int (nI 0)), (2, .ref m0), (1, .ref h0), (0, .ref b)]) hx hb d_law_17 rfl hl (by decide) rfl (fun ls hl => ?_)
  rw [← e0, ← e36] at hl
  exact lw_loop C0 hL hinj hAd hK (L + 7) 0 jx_M0 H _ ls (by omega) (by omega) tp_I0 hPw hS hl
