/-! the law's cases, one a call (law.py) -/
theorem lw_ck_0 : lw_ck 168 4 13 17 false = true := by decide +kernel
set_option maxRecDepth 100000 in
theorem lw_m7_0 : lw_mk mX7_office 13 0 4 := ⟨jx_mem 274 rfl rfl, by decide, rfl, by decide, rfl, by decide⟩
set_option maxRecDepth 100000 in
theorem lw_m8_0 : lw_mk mX8_office 17 36 4 := ⟨jx_mem 735 rfl rfl, by decide, rfl, by decide, rfl, by decide⟩
theorem lw_ck_1 : lw_ck 221 2 18 22 false = true := by decide +kernel
set_option maxRecDepth 100000 in
theorem lw_m7_1 : lw_mk mX7_ofPerson 18 0 2 := ⟨jx_mem 347 rfl rfl, by decide, rfl, by decide, rfl, by decide⟩
set_option maxRecDepth 100000 in
theorem lw_m8_1 : lw_mk mX8_ofPerson 22 36 2 := ⟨jx_mem 780 rfl rfl, by decide, rfl, by decide, rfl, by decide⟩
theorem lw_ck_2 : lw_ck 254 2 23 26 false = true := by decide +kernel
set_option maxRecDepth 100000 in
theorem lw_m7_2 : lw_mk mX7_ofClap 23 0 2 := ⟨jx_mem 367 rfl rfl, by decide, rfl, by decide, rfl, by decide⟩
set_option maxRecDepth 100000 in
theorem lw_m8_2 : lw_mk mX8_ofClap 26 36 2 := ⟨jx_mem 792 rfl rfl, by decide, rfl, by decide, rfl, by decide⟩
theorem lw_ck_3 : lw_ck 287 2 27 30 false = true := by decide +kernel
set_option maxRecDepth 100000 in
theorem lw_m7_3 : lw_mk mX7_nerve 27 0 2 := ⟨jx_mem 372 rfl rfl, by decide, rfl, by decide, rfl, by decide⟩
set_option maxRecDepth 100000 in
theorem lw_m8_3 : lw_mk mX8_nerve 30 36 2 := ⟨jx_mem 800 rfl rfl, by decide, rfl, by decide, rfl, by decide⟩
theorem lw_ck_4 : lw_ck 320 1 31 35 false = true := by decide +kernel
set_option maxRecDepth 100000 in
theorem lw_m7_4 : lw_mk mX7_damp 31 0 1 := ⟨jx_mem 376 rfl rfl, by decide, rfl, by decide, rfl, by decide⟩
set_option maxRecDepth 100000 in
theorem lw_m8_4 : lw_mk mX8_damp 35 36 1 := ⟨jx_mem 804 rfl rfl, by decide, rfl, by decide, rfl, by decide⟩
theorem lw_ck_5 : lw_ck 343 2 36 39 false = true := by decide +kernel
set_option maxRecDepth 100000 in
theorem lw_m7_5 : lw_mk mX7_send 36 0 2 := ⟨jx_mem 384 rfl rfl, by decide, rfl, by decide, rfl, by decide⟩
set_option maxRecDepth 100000 in
theorem lw_m8_5 : lw_mk mX8_send 39 36 2 := ⟨jx_mem 808 rfl rfl, by decide, rfl, by decide, rfl, by decide⟩
theorem lw_ck_6 : lw_ck 376 2 40 43 false = true := by decide +kernel
set_option maxRecDepth 100000 in
theorem lw_m7_6 : lw_mk mX7_loud 40 0 2 := ⟨jx_mem 388 rfl rfl, by decide, rfl, by decide, rfl, by decide⟩
set_option maxRecDepth 100000 in
theorem lw_m8_6 : lw_mk mX8_loud 43 36 2 := ⟨jx_mem 812 rfl rfl, by decide, rfl, by decide, rfl, by decide⟩
theorem lw_ck_7 : lw_ck 409 2 44 47 false = true := by decide +kernel
set_option maxRecDepth 100000 in
theorem lw_m7_7 : lw_mk mX7_owner 44 0 2 := ⟨jx_mem 399 rfl rfl, by decide, rfl, by decide, rfl, by decide⟩
set_option maxRecDepth 100000 in
theorem lw_m8_7 : lw_mk mX8_owner 47 36 2 := ⟨jx_mem 823 rfl rfl, by decide, rfl, by decide, rfl, by decide⟩
theorem lw_ck_8 : lw_ck 442 1 48 51 false = true := by decide +kernel
set_option maxRecDepth 100000 in
theorem lw_m7_8 : lw_mk mX7_last 48 0 1 := ⟨jx_mem 413 rfl rfl, by decide, rfl, by decide, rfl, by decide⟩
set_option maxRecDepth 100000 in
theorem lw_m8_8 : lw_mk mX8_last 51 36 1 := ⟨jx_mem 831 rfl rfl, by decide, rfl, by decide, rfl, by decide⟩
theorem lw_ck_9 : lw_ck 465 5 52 56 false = true := by decide +kernel
set_option maxRecDepth 100000 in
theorem lw_m7_9 : lw_mk mX7_open 52 0 5 := ⟨jx_mem 417 rfl rfl, by decide, rfl, by decide, rfl, by decide⟩
set_option maxRecDepth 100000 in
theorem lw_m8_9 : lw_mk mX8_open 56 36 5 := ⟨jx_mem 835 rfl rfl, by decide, rfl, by decide, rfl, by decide⟩
theorem lw_ck_10 : lw_ck 528 2 57 60 false = true := by decide +kernel
set_option maxRecDepth 100000 in
theorem lw_m7_10 : lw_mk mX7_ease 57 0 2 := ⟨jx_mem 460 rfl rfl, by decide, rfl, by decide, rfl, by decide⟩
set_option maxRecDepth 100000 in
theorem lw_m8_10 : lw_mk mX8_ease 60 36 2 := ⟨jx_mem 847 rfl rfl, by decide, rfl, by decide, rfl, by decide⟩
theorem lw_ck_11 : lw_ck 561 5 61 64 false = true := by decide +kernel
set_option maxRecDepth 100000 in
theorem lw_m7_11 : lw_mk mX7_shelf 61 0 5 := ⟨jx_mem 485 rfl rfl, by decide, rfl, by decide, rfl, by decide⟩
set_option maxRecDepth 100000 in
theorem lw_m8_11 : lw_mk mX8_shelf 64 36 5 := ⟨jx_mem 855 rfl rfl, by decide, rfl, by decide, rfl, by decide⟩
theorem lw_ck_12 : lw_ck 624 2 65 68 false = true := by decide +kernel
set_option maxRecDepth 100000 in
theorem lw_m7_12 : lw_mk mX7_order 65 0 2 := ⟨jx_mem 517 rfl rfl, by decide, rfl, by decide, rfl, by decide⟩
set_option maxRecDepth 100000 in
theorem lw_m8_12 : lw_mk mX8_order 68 36 2 := ⟨jx_mem 863 rfl rfl, by decide, rfl, by decide, rfl, by decide⟩
theorem lw_ck_13 : lw_ck 657 3 69 73 false = true := by decide +kernel
set_option maxRecDepth 100000 in
theorem lw_m7_13 : lw_mk mX7_reading 69 0 3 := ⟨jx_mem 528 rfl rfl, by decide, rfl, by decide, rfl, by decide⟩
set_option maxRecDepth 100000 in
theorem lw_m8_13 : lw_mk mX8_reading 73 36 3 := ⟨jx_mem 875 rfl rfl, by decide, rfl, by decide, rfl, by decide⟩
theorem lw_ck_14 : lw_ck 700 1 74 77 false = true := by decide +kernel
set_option maxRecDepth 100000 in
theorem lw_m7_14 : lw_mk mX7_back 74 0 1 := ⟨jx_mem 536 rfl rfl, by decide, rfl, by decide, rfl, by decide⟩
set_option maxRecDepth 100000 in
theorem lw_m8_14 : lw_mk mX8_back 77 36 1 := ⟨jx_mem 879 rfl rfl, by decide, rfl, by decide, rfl, by decide⟩
theorem lw_ck_15 : lw_ck 723 1 78 81 false = true := by decide +kernel
set_option maxRecDepth 100000 in
theorem lw_m7_15 : lw_mk mX7_sizes 78 0 1 := ⟨jx_mem 540 rfl rfl, by decide, rfl, by decide, rfl, by decide⟩
set_option maxRecDepth 100000 in
theorem lw_m8_15 : lw_mk mX8_sizes 81 36 1 := ⟨jx_mem 883 rfl rfl, by decide, rfl, by decide, rfl, by decide⟩
theorem lw_ck_16 : lw_ck 746 1 82 85 false = true := by decide +kernel
set_option maxRecDepth 100000 in
theorem lw_m7_16 : lw_mk mX7_kinds 82 0 1 := ⟨jx_mem 549 rfl rfl, by decide, rfl, by decide, rfl, by decide⟩
set_option maxRecDepth 100000 in
theorem lw_m8_16 : lw_mk mX8_kinds 85 36 1 := ⟨jx_mem 891 rfl rfl, by decide, rfl, by decide, rfl, by decide⟩
theorem lw_ck_17 : lw_ck 769 0 86 90 false = true := by decide +kernel
set_option maxRecDepth 100000 in
theorem lw_m7_17 : lw_mk mX7_damps 86 0 0 := ⟨jx_mem 553 rfl rfl, by decide, rfl, by decide, rfl, by decide⟩
set_option maxRecDepth 100000 in
theorem lw_m8_17 : lw_mk mX8_damps 90 36 0 := ⟨jx_mem 895 rfl rfl, by decide, rfl, by decide, rfl, by decide⟩
theorem lw_ck_18 : lw_ck 782 3 91 95 true = true := by decide +kernel
set_option maxRecDepth 100000 in
theorem lw_m7_18 : lw_mk mX7_odds 91 0 3 := ⟨jx_mem 557 rfl rfl, by decide, rfl, by decide, rfl, by decide⟩
set_option maxRecDepth 100000 in
theorem lw_m8_18 : lw_mk mX8_odds 95 36 3 := ⟨jx_mem 899 rfl rfl, by decide, rfl, by decide, rfl, by decide⟩
theorem lw_ck_19 : lw_ck 826 3 96 99 false = true := by decide +kernel
set_option maxRecDepth 100000 in
theorem lw_m7_19 : lw_mk mX7_sheet 96 0 3 := ⟨jx_mem 562 rfl rfl, by decide, rfl, by decide, rfl, by decide⟩
set_option maxRecDepth 100000 in
theorem lw_m8_19 : lw_mk mX8_sheet 99 36 3 := ⟨jx_mem 907 rfl rfl, by decide, rfl, by decide, rfl, by decide⟩
theorem lw_ck_20 : lw_ck 869 1 100 103 false = true := by decide +kernel
set_option maxRecDepth 100000 in
theorem lw_m7_20 : lw_mk mX7_lose 100 0 1 := ⟨jx_mem 570 rfl rfl, by decide, rfl, by decide, rfl, by decide⟩
set_option maxRecDepth 100000 in
theorem lw_m8_20 : lw_mk mX8_lose 103 36 1 := ⟨jx_mem 911 rfl rfl, by decide, rfl, by decide, rfl, by decide⟩
theorem lw_ck_21 : lw_ck 892 3 104 107 false = true := by decide +kernel
set_option maxRecDepth 100000 in
theorem lw_m7_21 : lw_mk mX7_put 104 0 3 := ⟨jx_mem 574 rfl rfl, by decide, rfl, by decide, rfl, by decide⟩
set_option maxRecDepth 100000 in
theorem lw_m8_21 : lw_mk mX8_put 107 36 3 := ⟨jx_mem 915 rfl rfl, by decide, rfl, by decide, rfl, by decide⟩
theorem lw_ck_22 : lw_ck 935 3 108 111 true = true := by decide +kernel
set_option maxRecDepth 100000 in
theorem lw_m7_22 : lw_mk mX7_cell 108 0 3 := ⟨jx_mem 583 rfl rfl, by decide, rfl, by decide, rfl, by decide⟩
set_option maxRecDepth 100000 in
theorem lw_m8_22 : lw_mk mX8_cell 111 36 3 := ⟨jx_mem 919 rfl rfl, by decide, rfl, by decide, rfl, by decide⟩
theorem lw_ck_23 : lw_ck 979 5 112 115 false = true := by decide +kernel
set_option maxRecDepth 100000 in
theorem lw_m7_23 : lw_mk mX7_copy 112 0 5 := ⟨jx_mem 588 rfl rfl, by decide, rfl, by decide, rfl, by decide⟩
set_option maxRecDepth 100000 in
theorem lw_m8_23 : lw_mk mX8_copy 115 36 5 := ⟨jx_mem 927 rfl rfl, by decide, rfl, by decide, rfl, by decide⟩
theorem lw_ck_24 : lw_ck 1042 1 116 119 false = true := by decide +kernel
set_option maxRecDepth 100000 in
theorem lw_m7_24 : lw_mk mX7_tell 116 0 1 := ⟨jx_mem 595 rfl rfl, by decide, rfl, by decide, rfl, by decide⟩
set_option maxRecDepth 100000 in
theorem lw_m8_24 : lw_mk mX8_tell 119 36 1 := ⟨jx_mem 931 rfl rfl, by decide, rfl, by decide, rfl, by decide⟩
theorem lw_ck_25 : lw_ck 1065 1 120 123 false = true := by decide +kernel
set_option maxRecDepth 100000 in
theorem lw_m7_25 : lw_mk mX7_cork 120 0 1 := ⟨jx_mem 615 rfl rfl, by decide, rfl, by decide, rfl, by decide⟩
set_option maxRecDepth 100000 in
theorem lw_m8_25 : lw_mk mX8_cork 123 36 1 := ⟨jx_mem 939 rfl rfl, by decide, rfl, by decide, rfl, by decide⟩
theorem lw_ck_26 : lw_ck 1088 2 124 127 false = true := by decide +kernel
set_option maxRecDepth 100000 in
theorem lw_m7_26 : lw_mk mX7_as 124 0 2 := ⟨jx_mem 619 rfl rfl, by decide, rfl, by decide, rfl, by decide⟩
set_option maxRecDepth 100000 in
theorem lw_m8_26 : lw_mk mX8_as 127 36 2 := ⟨jx_mem 943 rfl rfl, by decide, rfl, by decide, rfl, by decide⟩
theorem lw_ck_27 : lw_ck 1121 0 128 131 false = true := by decide +kernel
set_option maxRecDepth 100000 in
theorem lw_m7_27 : lw_mk mX7_trace 128 0 0 := ⟨jx_mem 623 rfl rfl, by decide, rfl, by decide, rfl, by decide⟩
set_option maxRecDepth 100000 in
theorem lw_m8_27 : lw_mk mX8_trace 131 36 0 := ⟨jx_mem 947 rfl rfl, by decide, rfl, by decide, rfl, by decide⟩
theorem lw_ck_28 : lw_ck 1134 0 132 135 false = true := by decide +kernel
set_option maxRecDepth 100000 in
theorem lw_m7_28 : lw_mk mX7_fault 132 0 0 := ⟨jx_mem 627 rfl rfl, by decide, rfl, by decide, rfl, by decide⟩
set_option maxRecDepth 100000 in
theorem lw_m8_28 : lw_mk mX8_fault 135 36 0 := ⟨jx_mem 951 rfl rfl, by decide, rfl, by decide, rfl, by decide⟩
theorem lw_ck_29 : lw_ck 1147 1 136 139 false = true := by decide +kernel
set_option maxRecDepth 100000 in
theorem lw_m7_29 : lw_mk mX7_many 136 0 1 := ⟨jx_mem 631 rfl rfl, by decide, rfl, by decide, rfl, by decide⟩
set_option maxRecDepth 100000 in
theorem lw_m8_29 : lw_mk mX8_many 139 36 1 := ⟨jx_mem 955 rfl rfl, by decide, rfl, by decide, rfl, by decide⟩
section LWD
variable {D : va_G} {ad : Nat → Nat} {cI cS : ClassId} {p : Program} {l : Launch} {e : Env} {s : State} {m : MethodId} {below : List Frame} {meth : Method} {c : Code} {Q : State → Prop} {H : Heap} {locs : List Loc} {ls : Array Slot} {b L i : Nat} {xs : Nat → Int32} {M : jx_M}
/-- where the switch goes -/
def lw_T : Nat → Nat
  | 0 => 168
  | 1 => 221
  | 2 => 254
  | 3 => 287
  | 4 => 320
  | 5 => 343
  | 6 => 376
  | 7 => 409
  | 8 => 442
  | 9 => 465
  | 10 => 528
  | 11 => 561
  | 12 => 624
  | 13 => 657
  | 14 => 700
  | 15 => 723
  | 16 => 746
  | 17 => 769
  | 18 => 782
  | 19 => 826
  | 20 => 869
  | 21 => 892
  | 22 => 935
  | 23 => 979
  | 24 => 1042
  | 25 => 1065
  | 26 => 1088
  | 27 => 1121
  | 28 => 1134
  | 29 => 1147
  | _ => 1170
theorem lw_case (C0 : lw_At p s m meth c b L xs) (hL : L ≤ 384) (hinj : jx_inj ad) (hA : ∀ k, k < 56 → lw_A s (ad k)) (hK : va_K D vwCl (jx_tys cI cS) s) (hl : lv_has ls 4 [(3, .int (nI i)), (2, .ref (ad 36)), (1, .ref (ad 0)), (0, .ref b)]) (hi : i + 6 ≤ L) (hT : tp_I M)
    (hP : va_P D vwCl (jx_w ad cI cS M) H) (hS : va_S (lw_A s) s.heap H locs) (kk : lw_K D ad cI cS p l e s m below meth c Q ls b) : ∀ j, W p l e room_1 s m #[Value.ref b] below meth c H locs 56 900 Q (F0 m (lw_T j) ls [])
  | 0 => lw_cI C0 hL hinj hA hK hl hi (by decide) lw_ck_0 lw_m7_0 lw_m8_0 (op_office (d := 0) hT (xs (i + 1)) (xs (i + 2)) (xs (i + 3)) (xs (i + 4))) hP hS kk
  | 1 => lw_cI C0 hL hinj hA hK hl hi (by decide) lw_ck_1 lw_m7_1 lw_m8_1 (op_ofPerson (d := 0) hT (xs (i + 1)) (xs (i + 2))) hP hS kk
  | 2 => lw_cI C0 hL hinj hA hK hl hi (by decide) lw_ck_2 lw_m7_2 lw_m8_2 (op_ofClap (d := 0) hT (xs (i + 1)) (xs (i + 2))) hP hS kk
  | 3 => lw_cI C0 hL hinj hA hK hl hi (by decide) lw_ck_3 lw_m7_3 lw_m8_3 (op_nerve (d := 0) hT (xs (i + 1)) (xs (i + 2))) hP hS kk
  | 4 => lw_cI C0 hL hinj hA hK hl hi (by decide) lw_ck_4 lw_m7_4 lw_m8_4 (op_damp (d := 0) hT (xs (i + 1))) hP hS kk
  | 5 => lw_cI C0 hL hinj hA hK hl hi (by decide) lw_ck_5 lw_m7_5 lw_m8_5 (op_send (d := 0) hT (xs (i + 1)) (xs (i + 2))) hP hS kk
  | 6 => lw_cI C0 hL hinj hA hK hl hi (by decide) lw_ck_6 lw_m7_6 lw_m8_6 (op_loud (d := 0) hT (xs (i + 1)) (xs (i + 2))) hP hS kk
  | 7 => lw_cI C0 hL hinj hA hK hl hi (by decide) lw_ck_7 lw_m7_7 lw_m8_7 (op_owner (d := 0) hT (xs (i + 1)) (xs (i + 2))) hP hS kk
  | 8 => lw_cI C0 hL hinj hA hK hl hi (by decide) lw_ck_8 lw_m7_8 lw_m8_8 (op_last (d := 0) hT (xs (i + 1))) hP hS kk
  | 9 => lw_cI C0 hL hinj hA hK hl hi (by decide) lw_ck_9 lw_m7_9 lw_m8_9 (op_open (d := 0) hT (xs (i + 1)) (xs (i + 2)) (xs (i + 3)) (xs (i + 4)) (xs (i + 5))) hP hS kk
  | 10 => lw_cI C0 hL hinj hA hK hl hi (by decide) lw_ck_10 lw_m7_10 lw_m8_10 (op_ease (d := 0) hT (xs (i + 1)) (xs (i + 2))) hP hS kk
  | 11 => lw_cI C0 hL hinj hA hK hl hi (by decide) lw_ck_11 lw_m7_11 lw_m8_11 (op_shelf (d := 0) hT (xs (i + 1)) (xs (i + 2)) (xs (i + 3)) (xs (i + 4)) (xs (i + 5))) hP hS kk
  | 12 => lw_cI C0 hL hinj hA hK hl hi (by decide) lw_ck_12 lw_m7_12 lw_m8_12 (op_order (d := 0) hT (xs (i + 1)) (xs (i + 2))) hP hS kk
  | 13 => lw_cI C0 hL hinj hA hK hl hi (by decide) lw_ck_13 lw_m7_13 lw_m8_13 (op_reading (d := 0) hT (xs (i + 1)) (xs (i + 2)) (xs (i + 3))) hP hS kk
  | 14 => lw_cI C0 hL hinj hA hK hl hi (by decide) lw_ck_14 lw_m7_14 lw_m8_14 (op_back (d := 0) hT (xs (i + 1))) hP hS kk
  | 15 => lw_cI C0 hL hinj hA hK hl hi (by decide) lw_ck_15 lw_m7_15 lw_m8_15 (op_sizes (d := 0) hT (xs (i + 1))) hP hS kk
  | 16 => lw_cI C0 hL hinj hA hK hl hi (by decide) lw_ck_16 lw_m7_16 lw_m8_16 (op_kinds (d := 0) hT (xs (i + 1))) hP hS kk
  | 17 => lw_cI C0 hL hinj hA hK hl hi (by decide) lw_ck_17 lw_m7_17 lw_m8_17 (op_damps (d := 0) hT) hP hS kk
  | 18 => lw_cL C0 hL hinj hA hK hl hi (by decide) lw_ck_18 lw_m7_18 lw_m8_18 (op_odds (d := 0) hT (xs (i + 1)) (xs (i + 2)) (xs (i + 3))) hP hS kk
  | 19 => lw_cI C0 hL hinj hA hK hl hi (by decide) lw_ck_19 lw_m7_19 lw_m8_19 (op_sheet (d := 0) hT (xs (i + 1)) (xs (i + 2)) (xs (i + 3))) hP hS kk
  | 20 => lw_cI C0 hL hinj hA hK hl hi (by decide) lw_ck_20 lw_m7_20 lw_m8_20 (op_lose (d := 0) hT (xs (i + 1))) hP hS kk
  | 21 => lw_cI C0 hL hinj hA hK hl hi (by decide) lw_ck_21 lw_m7_21 lw_m8_21 (op_put (d := 0) hT (xs (i + 1)) (xs (i + 2)) (xs (i + 3))) hP hS kk
  | 22 => lw_cL C0 hL hinj hA hK hl hi (by decide) lw_ck_22 lw_m7_22 lw_m8_22 (op_cell (d := 0) hT (xs (i + 1)) (xs (i + 2)) (xs (i + 3))) hP hS kk
  | 23 => lw_cI C0 hL hinj hA hK hl hi (by decide) lw_ck_23 lw_m7_23 lw_m8_23 (op_copy (d := 0) hT (xs (i + 1)) (xs (i + 2)) (xs (i + 3)) (xs (i + 4)) (xs (i + 5))) hP hS kk
  | 24 => lw_cI C0 hL hinj hA hK hl hi (by decide) lw_ck_24 lw_m7_24 lw_m8_24 (op_tell (d := 0) hT (xs (i + 1))) hP hS kk
  | 25 => lw_cI C0 hL hinj hA hK hl hi (by decide) lw_ck_25 lw_m7_25 lw_m8_25 (op_cork (d := 0) hT (xs (i + 1))) hP hS kk
  | 26 => lw_cI C0 hL hinj hA hK hl hi (by decide) lw_ck_26 lw_m7_26 lw_m8_26 (op_as (d := 0) hT (xs (i + 1)) (xs (i + 2))) hP hS kk
  | 27 => lw_cI C0 hL hinj hA hK hl hi (by decide) lw_ck_27 lw_m7_27 lw_m8_27 (op_trace (d := 0) hT) hP hS kk
  | 28 => lw_cI C0 hL hinj hA hK hl hi (by decide) lw_ck_28 lw_m7_28 lw_m8_28 (op_fault (d := 0) hT) hP hS kk
  | 29 => lw_cI C0 hL hinj hA hK hl hi (by decide) lw_ck_29 lw_m7_29 lw_m8_29 (op_many (d := 0) hT (xs (i + 1))) hP hS kk
  | j + 30 => kk M H locs hT hP hS
end LWD
