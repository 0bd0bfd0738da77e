theorem jx_di_0 : decode cX8_inLeastTerms 0 = .ok (.lload_n 0, 1) := by decide +kernel
theorem jx_di_1 : decode cX8_inLeastTerms 1 = .ok (.lstore 5, 2) := by decide +kernel
theorem jx_di_3 : decode cX8_inLeastTerms 3 = .ok (.lload_n 2, 1) := by decide +kernel
theorem jx_di_4 : decode cX8_inLeastTerms 4 = .ok (.lstore 7, 2) := by decide +kernel
theorem jx_di_6 : decode cX8_inLeastTerms 6 = .ok (.lload 7, 2) := by decide +kernel
theorem jx_di_8 : decode cX8_inLeastTerms 8 = .ok (.lconst 0, 1) := by decide +kernel
theorem jx_di_9 : decode cX8_inLeastTerms 9 = .ok (.lcmp, 1) := by decide +kernel
theorem jx_di_10 : decode cX8_inLeastTerms 10 = .ok (.ifCond .eq 21, 3) := by decide +kernel
theorem jx_di_13 : decode cX8_inLeastTerms 13 = .ok (.lload 5, 2) := by decide +kernel
theorem jx_di_15 : decode cX8_inLeastTerms 15 = .ok (.lload 7, 2) := by decide +kernel
theorem jx_di_17 : decode cX8_inLeastTerms 17 = .ok (.lrem, 1) := by decide +kernel
theorem jx_di_18 : decode cX8_inLeastTerms 18 = .ok (.lstore 9, 2) := by decide +kernel
theorem jx_di_20 : decode cX8_inLeastTerms 20 = .ok (.lload 7, 2) := by decide +kernel
theorem jx_di_22 : decode cX8_inLeastTerms 22 = .ok (.lstore 5, 2) := by decide +kernel
theorem jx_di_24 : decode cX8_inLeastTerms 24 = .ok (.lload 9, 2) := by decide +kernel
theorem jx_di_26 : decode cX8_inLeastTerms 26 = .ok (.lstore 7, 2) := by decide +kernel
theorem jx_di_28 : decode cX8_inLeastTerms 28 = .ok (.goto (-22), 3) := by decide +kernel
theorem jx_di_31 : decode cX8_inLeastTerms 31 = .ok (.iload 4, 2) := by decide +kernel
theorem jx_di_33 : decode cX8_inLeastTerms 33 = .ok (.ifCond .ne 10, 3) := by decide +kernel
theorem jx_di_36 : decode cX8_inLeastTerms 36 = .ok (.lload_n 0, 1) := by decide +kernel
theorem jx_di_37 : decode cX8_inLeastTerms 37 = .ok (.lload 5, 2) := by decide +kernel
theorem jx_di_39 : decode cX8_inLeastTerms 39 = .ok (.ldiv, 1) := by decide +kernel
theorem jx_di_40 : decode cX8_inLeastTerms 40 = .ok (.goto 7, 3) := by decide +kernel
theorem jx_di_43 : decode cX8_inLeastTerms 43 = .ok (.lload_n 2, 1) := by decide +kernel
theorem jx_di_44 : decode cX8_inLeastTerms 44 = .ok (.lload 5, 2) := by decide +kernel
theorem jx_di_46 : decode cX8_inLeastTerms 46 = .ok (.ldiv, 1) := by decide +kernel
theorem jx_di_47 : decode cX8_inLeastTerms 47 = .ok (.lreturn, 1) := by decide +kernel
theorem jx_lgc (a b : Int64) : lg_cmp a b = 0 ↔ a = b := by
  unfold lg_cmp
  by_cases h : b < a
  · rw [if_pos h]
    exact ⟨fun q => absurd q (by decide), fun q => absurd h (by rw [q]; exact fun z => Int64.lt_irrefl z)⟩
  · rw [if_neg h]
    by_cases h2 : a = b
    · rw [if_pos h2]; exact ⟨fun _ => h2, fun _ => rfl⟩
    · rw [if_neg h2]; exact ⟨fun q => absurd q (by decide), fun q => absurd q h2⟩
section JXI
variable {p : Program} {l : Launch} {e : Env} {R : Room} {s : State} {m : MethodId} {args : Array Value} {below : List Frame} {meth : Method} {c : Code} {H : Heap} {locs : List Loc} {Q : State → Prop}
theorem jx_ilt_loop (hx : p.tables.exec = Jvm.exec) (hb : c.code = cX8_inLeastTerms) {u v : Int64} {w : Int32} {g : Int64}
    (kk : ∀ (ls : Array Slot) (y : Int64), lv_has ls 11 [(7, .long y), (5, .long g), (0, .long u), (2, .long v), (4, .int w)] → W p l e R s m args below meth c H locs 0 0 Q (F0 m 31 ls [])) :
    ∀ (n : Nat) (x y : Int64), jx_gcd n x y = some g → ∀ ls : Array Slot, lv_has ls 11 [(7, .long y), (5, .long x), (0, .long u), (2, .long v), (4, .int w)] → W p l e R s m args below meth c H locs 0 0 Q (F0 m 6 ls [])
  | 0, _, _, h, _, _ => by cases h
  | n + 1, x, y, h, ls, hl => by
    unfold jx_gcd at h
    refine lv_lload hx hb jx_di_6 (lv_at hl 0 rfl) ?_
    refine lv_lconst (v := 0) hx hb jx_di_8 (by decide) ?_
    refine W.lcmp hx hb jx_di_9 ?_
    refine lv_if_eq (tgt := 31) hx hb jx_di_10 (by decide) (fun q => ?_) (fun q => ?_)
    · rw [jx_lgc] at q
      rw [if_pos q] at h
      cases h
      exact kk ls y hl
    · rw [jx_lgc] at q
      rw [if_neg q] at h
      refine lv_lload hx hb jx_di_13 (lv_at hl 1 rfl) ?_
      refine lv_lload hx hb jx_di_15 (lv_at hl 0 rfl) ?_
      refine lv_lrem hx hb jx_di_17 q ?_
      refine lv_lstore (lv' := [(9, .long (x - x / y * y)), (7, .long y), (5, .long x), (0, .long u), (2, .long v), (4, .int w)]) hx hb jx_di_18 hl (by decide) rfl (fun ls hl => ?_)
      refine lv_lload hx hb jx_di_20 (lv_at hl 1 rfl) ?_
      refine lv_lstore (lv' := [(5, .long y), (9, .long (x - x / y * y)), (7, .long y), (0, .long u), (2, .long v), (4, .int w)]) hx hb jx_di_22 hl (by decide) rfl (fun ls hl => ?_)
      refine lv_lload hx hb jx_di_24 (lv_at hl 1 rfl) ?_
      refine lv_lstore (lv' := [(7, .long (x - x / y * y)), (5, .long y), (9, .long (x - x / y * y)), (0, .long u), (2, .long v), (4, .int w)]) hx hb jx_di_26 hl (by decide) rfl (fun ls hl => ?_)
      refine lv_goto (tgt := 6) hx hb jx_di_28 (by decide) ?_
      exact jx_ilt_loop hx hb kk n y _ h ls (lv_sub hl [0, 1, 3, 4, 5] rfl)
end JXI
theorem jx_ilt_ok (l : Launch) (D : va_G) (ad : Nat → Nat) (cI cS : ClassId) : jx_iltM l D ad cI cS := by
  intro u v w r M hr
  refine Met.ofW (cc := cX8_inLeastTerms) (maxL := 11) (ret := some .long) (by decide +kernel) rfl ?_
  intro p e s m args below meth c s₁ B hml hv
  obtain ⟨rfl, hP, hK⟩ := hv
  have hx := B.exec
  have hb := B.bytes
  have hrt := B.returns
  have hlk := B.notSynchronized
  have hl := lv_entry ([.long u, .long v, .int w]) (n := 11) (Nat.le_of_ble_eq_true rfl)
  rw [lg_entry_eq]
  generalize (lg_sl ([.long u, .long v, .int w]) ++ List.replicate (11 - (lg_sl ([.long u, .long v, .int w])).length) Slot.unset).toArray = ls at hl ⊢
  have hl : lv_has ls 11 [(0, .long u), (2, .long v), (4, .int w)] := hl
  have hS : va_S (jx_A ad) s.heap s.heap [] := va_S.rf
  unfold jx_ilt at hr
  split at hr
  · cases hr
  · next g hg =>
    split at hr
    · cases hr
    · next hg0 =>
      cases hr
      refine lv_lload_n hx hb jx_di_0 rfl (lv_at hl 0 rfl) ?_
      refine lv_lstore (lv' := [(5, .long u), (0, .long u), (2, .long v), (4, .int w)]) hx hb jx_di_1 hl (by decide) rfl (fun ls hl => ?_)
      refine lv_lload_n hx hb jx_di_3 rfl (lv_at hl 2 rfl) ?_
      refine lv_lstore (lv' := [(7, .long v), (5, .long u), (0, .long u), (2, .long v), (4, .int w)]) hx hb jx_di_4 hl (by decide) rfl (fun ls hl => ?_)
      refine jx_ilt_loop hx hb (fun ls y hl => ?_) 100 u v hg ls hl
      refine lv_iload hx hb jx_di_31 (lv_at hl 4 rfl) ?_
      refine lv_if_ne (tgt := 43) hx hb jx_di_33 (by decide) (fun q => ?_) (fun q => ?_)
      · rw [if_neg q]
        refine lv_lload_n hx hb jx_di_43 rfl (lv_at hl 3 rfl) ?_
        refine lv_lload hx hb jx_di_44 (lv_at hl 1 rfl) ?_
        refine lv_ldiv hx hb jx_di_46 hg0 ?_
        exact W.lret hx hb hrt (fun t ht hW => ⟨⟨some (.long (v / g)), rfl, rfl, by rw [ht]; exact hP, va_K.moved hW.alike hK⟩, hS.F ht⟩) hS.2.2 jx_di_47 hlk
      · rw [if_pos q]
        refine lv_lload_n hx hb jx_di_36 rfl (lv_at hl 2 rfl) ?_
        refine lv_lload hx hb jx_di_37 (lv_at hl 1 rfl) ?_
        refine lv_ldiv hx hb jx_di_39 hg0 ?_
        refine lv_goto (tgt := 47) hx hb jx_di_40 (by decide) ?_
        exact W.lret hx hb hrt (fun t ht hW => ⟨⟨some (.long (u / g)), rfl, rfl, by rw [ht]; exact hP, va_K.moved hW.alike hK⟩, hS.F ht⟩) hS.2.2 jx_di_47 hlk
