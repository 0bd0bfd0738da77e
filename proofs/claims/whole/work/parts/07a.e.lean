theorem jx_i0 {x : Int32} (k : Nat) (h : ¬ x = Int32.ofNat k) (hk : k < 1000) : x.toInt ≠ (k : Int) := fun q => h (Int32.toInt_inj.mp (by rw [q, Int32.toInt_ofNat_of_lt (by omega)]))
theorem jx_tsx3 {x : Int32} (h0 : ¬ x = 0) (h1 : ¬ x = 1) (h2 : ¬ x = 2) : x.toInt ≠ 0 ∧ x.toInt ≠ 1 ∧ x.toInt ≠ 2 := ⟨jx_i0 0 h0 (by omega), jx_i0 1 h1 (by omega), jx_i0 2 h2 (by omega)⟩
theorem jx_tsx5 {x : Int32} (h0 : ¬ x = 0) (h1 : ¬ x = 1) (h2 : ¬ x = 2) (h3 : ¬ x = 3) (h4 : ¬ x = 4) : x.toInt ≠ 0 ∧ x.toInt ≠ 1 ∧ x.toInt ≠ 2 ∧ x.toInt ≠ 3 ∧ x.toInt ≠ 4 := ⟨jx_i0 0 h0 (by omega), jx_i0 1 h1 (by omega), jx_i0 2 h2 (by omega), jx_i0 3 h3 (by omega), jx_i0 4 h4 (by omega)⟩
set_option maxRecDepth 100000 in
theorem eX0_findLeast :
  (∀ (d : Nat) (st : List Value) (M : jx_M) (Q : jx_Po) (l1 l2 l3 : Option Value) (x : Nat), jx_Ev d 0 0 [some (.ref x), l1, l2, l3] st M Q ↔ jx_Ev d 0 1 [some (.ref x), l1, l2, l3] (.ref x :: st) M Q) ∧
  (∀ (d : Nat) (st : List Value) (M : jx_M) (Q : jx_Po) (l0 l2 l3 : Option Value) (x : Nat), jx_Ev d 0 1 [l0, some (.ref x), l2, l3] st M Q ↔ jx_Ev d 0 2 [l0, some (.ref x), l2, l3] (.ref x :: st) M Q) ∧
  (∀ (d : Nat) (lv : List (Option Value)) (st : List Value) (M : jx_M) (Q : jx_Po) (o : Nat) (ho : o < 56), jx_Ev d 0 2 lv (.ref o :: .ref 9 :: st) M Q ↔ jx_Ev d 0 5 lv st (jx_up M 9 4 (nI o)) Q) ∧
  (∀ (d : Nat) (st : List Value) (M : jx_M) (Q : jx_Po) (l1 l2 l3 : Option Value) (x : Nat), jx_Ev d 0 5 [some (.ref x), l1, l2, l3] st M Q ↔ jx_Ev d 0 6 [some (.ref x), l1, l2, l3] (.ref x :: st) M Q) ∧
  (∀ (d : Nat) (st : List Value) (M : jx_M) (Q : jx_Po) (l0 l1 l3 : Option Value) (x : Int32), jx_Ev d 0 6 [l0, l1, some (.int x), l3] st M Q ↔ jx_Ev d 0 7 [l0, l1, some (.int x), l3] (.int x :: st) M Q) ∧
  (∀ (d : Nat) (lv : List (Option Value)) (st : List Value) (M : jx_M) (Q : jx_Po) (x : Int32), jx_Ev d 0 7 lv (.int x :: .ref 9 :: st) M Q ↔ jx_Ev d 0 10 lv st (jx_up M 9 5 x) Q) ∧
  (∀ (d : Nat) (st : List Value) (M : jx_M) (Q : jx_Po) (l1 l2 l3 : Option Value) (x : Nat), jx_Ev d 0 10 [some (.ref x), l1, l2, l3] st M Q ↔ jx_Ev d 0 11 [some (.ref x), l1, l2, l3] (.ref x :: st) M Q) ∧
  (∀ (d : Nat) (lv : List (Option Value)) (st : List Value) (M : jx_M) (Q : jx_Po), jx_Ev d 0 11 lv st M Q ↔ jx_Ev d 0 13 lv (.int 2147483647 :: st) M Q) ∧
  (∀ (d : Nat) (lv : List (Option Value)) (st : List Value) (M : jx_M) (Q : jx_Po) (x : Int32), jx_Ev d 0 13 lv (.int x :: .ref 9 :: st) M Q ↔ jx_Ev d 0 16 lv st (jx_up M 9 1 x) Q) ∧
  (∀ (d : Nat) (lv : List (Option Value)) (st : List Value) (M : jx_M) (Q : jx_Po), jx_Ev d 0 16 lv st M Q ↔ jx_Ev d 0 17 lv (.int 0 :: st) M Q) ∧
  (∀ (d : Nat) (st : List Value) (M : jx_M) (Q : jx_Po) (l0 l1 l2 l3 : Option Value) (x : Int32), jx_Ev d 0 17 [l0, l1, l2, l3] (.int x :: st) M Q ↔ jx_Ev d 0 18 [l0, l1, l2, some (.int x)] st M Q) ∧
  (∀ (d : Nat) (lv : List (Option Value)) (st : List Value) (M : jx_M) (Q : jx_Po), jx_Ev d 0 19 lv st M Q ↔ jx_Ev d 0 20 lv (.int 4 :: st) M Q) ∧
  (∀ (d : Nat) (lv : List (Option Value)) (st : List Value) (M : jx_M) (Q : jx_Po) (x z : Int32), jx_Ev d 0 20 lv (.int z :: .int x :: st) M Q ↔ (if z ≤ x then jx_Ev d 0 36 lv st M Q else jx_Ev d 0 23 lv st M Q)) ∧
  (∀ (d : Nat) (st : List Value) (M : jx_M) (Q : jx_Po) (l1 l2 l3 : Option Value) (x : Nat), jx_Ev d 0 23 [some (.ref x), l1, l2, l3] st M Q ↔ jx_Ev d 0 24 [some (.ref x), l1, l2, l3] (.ref x :: st) M Q) ∧
  (∀ (d : Nat) (lv : List (Option Value)) (st : List Value) (M : jx_M) (Q : jx_Po), jx_Ev d 0 24 lv (.ref 9 :: st) M Q ↔ jx_Ev d 0 27 lv (.ref 12 :: st) M Q) ∧
  (∀ (d : Nat) (st : List Value) (M : jx_M) (Q : jx_Po) (l0 l1 l2 : Option Value) (x : Int32), jx_Ev d 0 27 [l0, l1, l2, some (.int x)] st M Q ↔ jx_Ev d 0 28 [l0, l1, l2, some (.int x)] (.int x :: st) M Q) ∧
  (∀ (d : Nat) (lv : List (Option Value)) (st : List Value) (M : jx_M) (Q : jx_Po), jx_Ev d 0 28 lv st M Q ↔ jx_Ev d 0 29 lv (.int 0 :: st) M Q) ∧
  (∀ (d : Nat) (lv : List (Option Value)) (st : List Value) (M : jx_M) (Q : jx_Po) (x z : Int32) (a : Nat) (ha : jx_cl a = 9), jx_Ev d 0 29 lv (.int z :: .int x :: .ref a :: st) M Q ↔ (vp_in x (jx_sz a) ∧ jx_Ev d 0 30 lv st (jx_up M a x.toNatClampNeg z) Q)) ∧
  (∀ (d : Nat) (st : List Value) (M : jx_M) (Q : jx_Po) (l0 l1 l2 : Option Value) (x : Int32), jx_Ev d 0 30 [l0, l1, l2, some (.int x)] st M Q ↔ jx_Ev d 0 33 [l0, l1, l2, some (.int (x + 1))] st M Q) ∧
  (∀ (d : Nat) (lv : List (Option Value)) (st : List Value) (M : jx_M) (Q : jx_Po), jx_Ev d 0 33 lv st M Q ↔ jx_Ev d 0 18 lv st M Q) ∧
  (∀ (d : Nat) (st : List Value) (M : jx_M) (Q : jx_Po) (l1 l2 l3 : Option Value) (x : Nat), jx_Ev d 0 36 [some (.ref x), l1, l2, l3] st M Q ↔ jx_Ev d 0 37 [some (.ref x), l1, l2, l3] (.ref x :: st) M Q) ∧
  (∀ (d : Nat) (lv : List (Option Value)) (st : List Value) (M : jx_M) (Q : jx_Po), jx_Ev d 0 37 lv st M Q ↔ jx_Ev d 0 38 lv (.int 0 :: st) M Q) ∧
  (∀ (d : Nat) (lv : List (Option Value)) (st : List Value) (M : jx_M) (Q : jx_Po), jx_Ev d 0 38 lv st M Q ↔ jx_Ev d 0 39 lv (.int 0 :: st) M Q) ∧
  (∀ (d : Nat) (lv : List (Option Value)) (M : jx_M) (Q : jx_Po) (a0 : Int32) (a1 : Int32) (a2 : Nat), jx_Ev (d + 1) 0 39 lv [.int a0, .int a1, .ref a2] M Q ↔ jx_V d 1 [.ref a2, .int a1, .int a0] M (fun M => jx_Ev (d + 1) 0 42 lv [] M Q)) ∧
  (∀ (d : Nat) (lv : List (Option Value)) (M : jx_M) (Q : jx_Po), jx_Ev d 0 42 lv [] M Q ↔ Q [] M) := by
  refine ⟨?_, ?_, ?_, ?_, ?_, ?_, ?_, ?_, ?_, ?_, ?_, ?_, ?_, ?_, ?_, ?_, ?_, ?_, ?_, ?_, ?_, ?_, ?_, ?_, ?_⟩
  · exact fun d st M Q l1 l2 l3 x => jx_ev_st (jx_fok (by decide +kernel : decode (jx_mb 0) 0 = .ok (.aload_n 0, 1))) rfl rfl rfl
  · exact fun d st M Q l0 l2 l3 x => jx_ev_st (jx_fok (by decide +kernel : decode (jx_mb 0) 1 = .ok (.aload_n 1, 1))) rfl rfl rfl
  · exact fun d lv st M Q o ho => jx_k_pf2 (jx_fok (by decide +kernel : decode (jx_mb 0) 2 = .ok (.putfield 25, 3))) rfl rfl rfl ho
  · exact fun d st M Q l1 l2 l3 x => jx_ev_st (jx_fok (by decide +kernel : decode (jx_mb 0) 5 = .ok (.aload_n 0, 1))) rfl rfl rfl
  · exact fun d st M Q l0 l1 l3 x => jx_ev_st (jx_fok (by decide +kernel : decode (jx_mb 0) 6 = .ok (.iload_n 2, 1))) rfl rfl rfl
  · exact fun d lv st M Q x => jx_k_pf0 (jx_fok (by decide +kernel : decode (jx_mb 0) 7 = .ok (.putfield 29, 3))) rfl rfl rfl
  · exact fun d st M Q l1 l2 l3 x => jx_ev_st (jx_fok (by decide +kernel : decode (jx_mb 0) 10 = .ok (.aload_n 0, 1))) rfl rfl rfl
  · exact fun d lv st M Q => jx_ev_st (jx_fok (by decide +kernel : decode (jx_mb 0) 11 = .ok (.ldc 34, 2))) rfl rfl rfl
  · exact fun d lv st M Q x => jx_k_pf0 (jx_fok (by decide +kernel : decode (jx_mb 0) 13 = .ok (.putfield 15, 3))) rfl rfl rfl
  · exact fun d lv st M Q => jx_ev_st (jx_fok (by decide +kernel : decode (jx_mb 0) 16 = .ok (.iconst 0, 1))) rfl rfl rfl
  · exact fun d st M Q l0 l1 l2 l3 x => jx_ev_st (jx_fok (by decide +kernel : decode (jx_mb 0) 17 = .ok (.istore_n 3, 1))) rfl rfl rfl
  · exact fun d lv st M Q => jx_ev_st (jx_fok (by decide +kernel : decode (jx_mb 0) 19 = .ok (.iconst 4, 1))) rfl rfl rfl
  · exact fun d lv st M Q x z => jx_k_b2 (jx_fok (by decide +kernel : decode (jx_mb 0) 20 = .ok (.if_icmp .ge 16, 3))) rfl jx_hGe
  · exact fun d st M Q l1 l2 l3 x => jx_ev_st (jx_fok (by decide +kernel : decode (jx_mb 0) 23 = .ok (.aload_n 0, 1))) rfl rfl rfl
  · exact fun d lv st M Q => jx_k_gf (jx_fok (by decide +kernel : decode (jx_mb 0) 24 = .ok (.getfield 22, 3))) rfl rfl rfl
  · exact fun d st M Q l0 l1 l2 x => jx_ev_st (jx_fok (by decide +kernel : decode (jx_mb 0) 27 = .ok (.iload_n 3, 1))) rfl rfl rfl
  · exact fun d lv st M Q => jx_ev_st (jx_fok (by decide +kernel : decode (jx_mb 0) 28 = .ok (.iconst 0, 1))) rfl rfl rfl
  · exact fun d lv st M Q x z a ha => jx_k_as (jx_fok (by decide +kernel : decode (jx_mb 0) 29 = .ok (.iastore, 1))) ha
  · exact fun d st M Q l0 l1 l2 x => jx_ev_st (jx_fok (by decide +kernel : decode (jx_mb 0) 30 = .ok (.iinc 3 1, 3))) rfl rfl rfl
  · exact fun d lv st M Q => jx_k_goto (jx_fok (by decide +kernel : decode (jx_mb 0) 33 = .ok (.goto (-15), 3))) rfl
  · exact fun d st M Q l1 l2 l3 x => jx_ev_st (jx_fok (by decide +kernel : decode (jx_mb 0) 36 = .ok (.aload_n 0, 1))) rfl rfl rfl
  · exact fun d lv st M Q => jx_ev_st (jx_fok (by decide +kernel : decode (jx_mb 0) 37 = .ok (.iconst 0, 1))) rfl rfl rfl
  · exact fun d lv st M Q => jx_ev_st (jx_fok (by decide +kernel : decode (jx_mb 0) 38 = .ok (.iconst 0, 1))) rfl rfl rfl
  · exact fun d lv M Q a0 a1 a2 => jx_ev_cv (jx_fok (by decide +kernel : decode (jx_mb 0) 39 = .ok (.invokestatic 35, 3))) rfl (jx_ccS (As := [.ref a2, .int a1, .int a0]) (rest := []) rfl rfl rfl rfl rfl) rfl
  · exact fun d lv M Q => jx_k_rv (jx_fok (by decide +kernel : decode (jx_mb 0) 42 = .ok (.return_, 1))) rfl
theorem eX0_findLeast_18 (d : Nat) (st : List Value) (M : jx_M) (Q : jx_Po) (l0 l1 l2 : Option Value) (x : Int32) : jx_Ev d 0 18 [l0, l1, l2, some (.int x)] st M Q ↔ jx_Ev d 0 19 [l0, l1, l2, some (.int x)] (.int x :: st) M Q := jx_ev_st (jx_fok (by decide +kernel : decode (jx_mb 0) 18 = .ok (.iload_n 3, 1))) rfl rfl rfl
theorem kX0_findLeast (d : Nat) (M : jx_M) (q : jx_M → Prop) (a0 a1 a2 : Value) : jx_V d 0 [a0, a1, a2] M q ↔ jx_Ev d 0 0 [some a0, some a1, some a2, none] [] M (jx_qV q) := Iff.rfl
set_option maxRecDepth 100000 in
theorem eX0_settleFrom :
  (∀ (d : Nat) (st : List Value) (M : jx_M) (Q : jx_Po) (l0 l1 l3 l4 l5 : Option Value) (x : Int32), jx_Ev d 1 0 [l0, l1, some (.int x), l3, l4, l5] st M Q ↔ jx_Ev d 1 1 [l0, l1, some (.int x), l3, l4, l5] (.int x :: st) M Q) ∧
  (∀ (d : Nat) (st : List Value) (M : jx_M) (Q : jx_Po) (l1 l2 l3 l4 l5 : Option Value) (x : Nat), jx_Ev d 1 1 [some (.ref x), l1, l2, l3, l4, l5] st M Q ↔ jx_Ev d 1 2 [some (.ref x), l1, l2, l3, l4, l5] (.ref x :: st) M Q) ∧
  (∀ (d : Nat) (lv : List (Option Value)) (st : List Value) (M : jx_M) (Q : jx_Po), jx_Ev d 1 2 lv (.ref 9 :: st) M Q ↔ jx_Ev d 1 5 lv (.int (M 9 1) :: st) M Q) ∧
  (∀ (d : Nat) (lv : List (Option Value)) (st : List Value) (M : jx_M) (Q : jx_Po) (x z : Int32), jx_Ev d 1 5 lv (.int z :: .int x :: st) M Q ↔ (if x < z then jx_Ev d 1 9 lv st M Q else jx_Ev d 1 8 lv st M Q)) ∧
  (∀ (d : Nat) (lv : List (Option Value)) (M : jx_M) (Q : jx_Po), jx_Ev d 1 8 lv [] M Q ↔ Q [] M) ∧
  (∀ (d : Nat) (st : List Value) (M : jx_M) (Q : jx_Po) (l0 l2 l3 l4 l5 : Option Value) (x : Int32), jx_Ev d 1 9 [l0, some (.int x), l2, l3, l4, l5] st M Q ↔ jx_Ev d 1 10 [l0, some (.int x), l2, l3, l4, l5] (.int x :: st) M Q) ∧
  (∀ (d : Nat) (lv : List (Option Value)) (st : List Value) (M : jx_M) (Q : jx_Po), jx_Ev d 1 10 lv st M Q ↔ jx_Ev d 1 12 lv (.int 6 :: st) M Q) ∧
  (∀ (d : Nat) (lv : List (Option Value)) (st : List Value) (M : jx_M) (Q : jx_Po) (x z : Int32), jx_Ev d 1 12 lv (.int z :: .int x :: st) M Q ↔ (if x < z then jx_Ev d 1 21 lv st M Q else jx_Ev d 1 15 lv st M Q)) ∧
  (∀ (d : Nat) (st : List Value) (M : jx_M) (Q : jx_Po) (l1 l2 l3 l4 l5 : Option Value) (x : Nat), jx_Ev d 1 15 [some (.ref x), l1, l2, l3, l4, l5] st M Q ↔ jx_Ev d 1 16 [some (.ref x), l1, l2, l3, l4, l5] (.ref x :: st) M Q) ∧
  (∀ (d : Nat) (st : List Value) (M : jx_M) (Q : jx_Po) (l0 l1 l3 l4 l5 : Option Value) (x : Int32), jx_Ev d 1 16 [l0, l1, some (.int x), l3, l4, l5] st M Q ↔ jx_Ev d 1 17 [l0, l1, some (.int x), l3, l4, l5] (.int x :: st) M Q) ∧
  (∀ (d : Nat) (lv : List (Option Value)) (M : jx_M) (Q : jx_Po) (a0 : Int32), jx_Ev (d + 1) 1 17 lv [.int a0, .ref 9] M Q ↔ jx_V d 3 [.ref 9, .int a0] M (fun M => jx_Ev (d + 1) 1 20 lv [] M Q)) ∧
  (∀ (d : Nat) (lv : List (Option Value)) (M : jx_M) (Q : jx_Po), jx_Ev d 1 20 lv [] M Q ↔ Q [] M) ∧
  (∀ (d : Nat) (st : List Value) (M : jx_M) (Q : jx_Po) (l1 l2 l3 l4 l5 : Option Value) (x : Nat), jx_Ev d 1 21 [some (.ref x), l1, l2, l3, l4, l5] st M Q ↔ jx_Ev d 1 22 [some (.ref x), l1, l2, l3, l4, l5] (.ref x :: st) M Q) ∧
  (∀ (d : Nat) (lv : List (Option Value)) (st : List Value) (M : jx_M) (Q : jx_Po), jx_Ev d 1 22 lv (.ref 9 :: st) M Q ↔ jx_Ev d 1 25 lv (jx_rv (M 9 4) :: st) M Q) ∧
  (∀ (d : Nat) (lv : List (Option Value)) (st : List Value) (M : jx_M) (Q : jx_Po) (k : Nat), jx_Ev d 1 25 lv (.ref k :: st) M Q ↔ jx_Ev d 1 28 lv st M Q) ∧
  (∀ (d : Nat) (lv : List (Option Value)) (st : List Value) (M : jx_M) (Q : jx_Po), jx_Ev d 1 25 lv (.null :: st) M Q ↔ jx_Ev d 1 43 lv st M Q) ∧
  (∀ (d : Nat) (st : List Value) (M : jx_M) (Q : jx_Po) (l1 l2 l3 l4 l5 : Option Value) (x : Nat), jx_Ev d 1 28 [some (.ref x), l1, l2, l3, l4, l5] st M Q ↔ jx_Ev d 1 29 [some (.ref x), l1, l2, l3, l4, l5] (.ref x :: st) M Q) ∧
  (∀ (d : Nat) (lv : List (Option Value)) (st : List Value) (M : jx_M) (Q : jx_Po), jx_Ev d 1 29 lv (.ref 9 :: st) M Q ↔ jx_Ev d 1 32 lv (jx_rv (M 9 4) :: st) M Q) ∧
  (∀ (d : Nat) (st : List Value) (M : jx_M) (Q : jx_Po) (l0 l2 l3 l4 l5 : Option Value) (x : Int32), jx_Ev d 1 32 [l0, some (.int x), l2, l3, l4, l5] st M Q ↔ jx_Ev d 1 33 [l0, some (.int x), l2, l3, l4, l5] (.int x :: st) M Q) ∧
  (∀ (d : Nat) (st : List Value) (M : jx_M) (Q : jx_Po) (l1 l2 l3 l4 l5 : Option Value) (x : Nat), jx_Ev d 1 33 [some (.ref x), l1, l2, l3, l4, l5] st M Q ↔ jx_Ev d 1 34 [some (.ref x), l1, l2, l3, l4, l5] (.ref x :: st) M Q) ∧
  (∀ (d : Nat) (lv : List (Option Value)) (st : List Value) (M : jx_M) (Q : jx_Po), jx_Ev d 1 34 lv (.ref 9 :: st) M Q ↔ jx_Ev d 1 37 lv (.int (M 9 5) :: st) M Q) ∧
  (∀ (d : Nat) (lv : List (Option Value)) (M : jx_M) (Q : jx_Po) (a0 : Int32) (a1 : Int32) (a2 : Nat) (hk : jx_cl a2 = 1), jx_Ev (d + 1) 1 37 lv [.int a0, .int a1, .ref a2] M Q ↔ jx_I d 7 [.ref a2, .int a1, .int a0] M (fun x M => jx_Ev (d + 1) 1 40 lv (.int x :: []) M Q)) ∧
  (∀ (d : Nat) (lv : List (Option Value)) (st : List Value) (M : jx_M) (Q : jx_Po) (x : Int32), jx_Ev d 1 40 lv (.int x :: st) M Q ↔ (if x = 0 then jx_Ev d 1 43 lv st M Q else jx_Ev d 1 52 lv st M Q)) ∧
  (∀ (d : Nat) (st : List Value) (M : jx_M) (Q : jx_Po) (l1 l2 l3 l4 l5 : Option Value) (x : Nat), jx_Ev d 1 43 [some (.ref x), l1, l2, l3, l4, l5] st M Q ↔ jx_Ev d 1 44 [some (.ref x), l1, l2, l3, l4, l5] (.ref x :: st) M Q) ∧
  (∀ (d : Nat) (st : List Value) (M : jx_M) (Q : jx_Po) (l0 l2 l3 l4 l5 : Option Value) (x : Int32), jx_Ev d 1 44 [l0, some (.int x), l2, l3, l4, l5] st M Q ↔ jx_Ev d 1 45 [l0, some (.int x), l2, l3, l4, l5] (.int x :: st) M Q) ∧
  (∀ (d : Nat) (lv : List (Option Value)) (st : List Value) (M : jx_M) (Q : jx_Po), jx_Ev d 1 45 lv st M Q ↔ jx_Ev d 1 46 lv (.int 1 :: st) M Q) ∧
  (∀ (d : Nat) (lv : List (Option Value)) (st : List Value) (M : jx_M) (Q : jx_Po) (x z : Int32), jx_Ev d 1 46 lv (.int z :: .int x :: st) M Q ↔ jx_Ev d 1 47 lv (.int (x + z) :: st) M Q) ∧
  (∀ (d : Nat) (st : List Value) (M : jx_M) (Q : jx_Po) (l0 l1 l3 l4 l5 : Option Value) (x : Int32), jx_Ev d 1 47 [l0, l1, some (.int x), l3, l4, l5] st M Q ↔ jx_Ev d 1 48 [l0, l1, some (.int x), l3, l4, l5] (.int x :: st) M Q) ∧
  (∀ (d : Nat) (lv : List (Option Value)) (M : jx_M) (Q : jx_Po) (a0 : Int32) (a1 : Int32) (a2 : Nat), jx_Ev (d + 1) 1 48 lv [.int a0, .int a1, .ref a2] M Q ↔ jx_V d 1 [.ref a2, .int a1, .int a0] M (fun M => jx_Ev (d + 1) 1 51 lv [] M Q)) ∧
  (∀ (d : Nat) (lv : List (Option Value)) (M : jx_M) (Q : jx_Po), jx_Ev d 1 51 lv [] M Q ↔ Q [] M) ∧
  (∀ (d : Nat) (lv : List (Option Value)) (st : List Value) (M : jx_M) (Q : jx_Po), jx_Ev d 1 52 lv st M Q ↔ jx_Ev d 1 53 lv (.int 0 :: st) M Q) ∧
  (∀ (d : Nat) (st : List Value) (M : jx_M) (Q : jx_Po) (l0 l1 l2 l3 l4 l5 : Option Value) (x : Int32), jx_Ev d 1 53 [l0, l1, l2, l3, l4, l5] (.int x :: st) M Q ↔ jx_Ev d 1 54 [l0, l1, l2, some (.int x), l4, l5] st M Q) ∧
  (∀ (d : Nat) (lv : List (Option Value)) (st : List Value) (M : jx_M) (Q : jx_Po), jx_Ev d 1 55 lv st M Q ↔ jx_Ev d 1 56 lv (.int 4 :: st) M Q) ∧
  (∀ (d : Nat) (lv : List (Option Value)) (st : List Value) (M : jx_M) (Q : jx_Po) (x z : Int32), jx_Ev d 1 56 lv (.int z :: .int x :: st) M Q ↔ (if z ≤ x then jx_Ev d 1 129 lv st M Q else jx_Ev d 1 59 lv st M Q)) ∧
  (∀ (d : Nat) (st : List Value) (M : jx_M) (Q : jx_Po) (l1 l2 l3 l4 l5 : Option Value) (x : Nat), jx_Ev d 1 59 [some (.ref x), l1, l2, l3, l4, l5] st M Q ↔ jx_Ev d 1 60 [some (.ref x), l1, l2, l3, l4, l5] (.ref x :: st) M Q) ∧
  (∀ (d : Nat) (lv : List (Option Value)) (st : List Value) (M : jx_M) (Q : jx_Po), jx_Ev d 1 60 lv (.ref 9 :: st) M Q ↔ jx_Ev d 1 63 lv (jx_rv (M 9 4) :: st) M Q) ∧
  (∀ (d : Nat) (st : List Value) (M : jx_M) (Q : jx_Po) (l0 l2 l3 l4 l5 : Option Value) (x : Int32), jx_Ev d 1 63 [l0, some (.int x), l2, l3, l4, l5] st M Q ↔ jx_Ev d 1 64 [l0, some (.int x), l2, l3, l4, l5] (.int x :: st) M Q) ∧
  (∀ (d : Nat) (st : List Value) (M : jx_M) (Q : jx_Po) (l0 l1 l2 l4 l5 : Option Value) (x : Int32), jx_Ev d 1 64 [l0, l1, l2, some (.int x), l4, l5] st M Q ↔ jx_Ev d 1 65 [l0, l1, l2, some (.int x), l4, l5] (.int x :: st) M Q) ∧
  (∀ (d : Nat) (lv : List (Option Value)) (M : jx_M) (Q : jx_Po) (a0 : Int32) (a1 : Int32) (a2 : Nat) (hk : jx_cl a2 = 1), jx_Ev (d + 1) 1 65 lv [.int a0, .int a1, .ref a2] M Q ↔ jx_I d 10 [.ref a2, .int a1, .int a0] M (fun x M => jx_Ev (d + 1) 1 68 lv (.int x :: []) M Q)) ∧
  (∀ (d : Nat) (st : List Value) (M : jx_M) (Q : jx_Po) (l0 l1 l2 l3 l4 l5 : Option Value) (x : Int32), jx_Ev d 1 68 [l0, l1, l2, l3, l4, l5] (.int x :: st) M Q ↔ jx_Ev d 1 70 [l0, l1, l2, l3, some (.int x), l5] st M Q) ∧
  (∀ (d : Nat) (st : List Value) (M : jx_M) (Q : jx_Po) (l1 l2 l3 l4 l5 : Option Value) (x : Nat), jx_Ev d 1 70 [some (.ref x), l1, l2, l3, l4, l5] st M Q ↔ jx_Ev d 1 71 [some (.ref x), l1, l2, l3, l4, l5] (.ref x :: st) M Q) ∧
  (∀ (d : Nat) (st : List Value) (M : jx_M) (Q : jx_Po) (l0 l1 l2 l4 l5 : Option Value) (x : Int32), jx_Ev d 1 71 [l0, l1, l2, some (.int x), l4, l5] st M Q ↔ jx_Ev d 1 72 [l0, l1, l2, some (.int x), l4, l5] (.int x :: st) M Q) ∧
  (∀ (d : Nat) (lv : List (Option Value)) (M : jx_M) (Q : jx_Po) (a0 : Int32), jx_Ev (d + 1) 1 72 lv [.int a0, .ref 9] M Q ↔ jx_I d 2 [.ref 9, .int a0] M (fun x M => jx_Ev (d + 1) 1 75 lv (.int x :: []) M Q)) ∧
  (∀ (d : Nat) (st : List Value) (M : jx_M) (Q : jx_Po) (l0 l1 l2 l3 l4 l5 : Option Value) (x : Int32), jx_Ev d 1 75 [l0, l1, l2, l3, l4, l5] (.int x :: st) M Q ↔ jx_Ev d 1 77 [l0, l1, l2, l3, l4, some (.int x)] st M Q) ∧
  (∀ (d : Nat) (st : List Value) (M : jx_M) (Q : jx_Po) (l1 l2 l3 l4 l5 : Option Value) (x : Nat), jx_Ev d 1 77 [some (.ref x), l1, l2, l3, l4, l5] st M Q ↔ jx_Ev d 1 78 [some (.ref x), l1, l2, l3, l4, l5] (.ref x :: st) M Q) ∧
  (∀ (d : Nat) (lv : List (Option Value)) (st : List Value) (M : jx_M) (Q : jx_Po), jx_Ev d 1 78 lv (.ref 9 :: st) M Q ↔ jx_Ev d 1 81 lv (.ref 11 :: st) M Q) ∧
  (∀ (d : Nat) (st : List Value) (M : jx_M) (Q : jx_Po) (l0 l2 l3 l4 l5 : Option Value) (x : Int32), jx_Ev d 1 81 [l0, some (.int x), l2, l3, l4, l5] st M Q ↔ jx_Ev d 1 82 [l0, some (.int x), l2, l3, l4, l5] (.int x :: st) M Q) ∧
  (∀ (d : Nat) (st : List Value) (M : jx_M) (Q : jx_Po) (l0 l1 l2 l4 l5 : Option Value) (x : Int32), jx_Ev d 1 82 [l0, l1, l2, some (.int x), l4, l5] st M Q ↔ jx_Ev d 1 83 [l0, l1, l2, some (.int x), l4, l5] (.int x :: st) M Q) ∧
  (∀ (d : Nat) (lv : List (Option Value)) (st : List Value) (M : jx_M) (Q : jx_Po) (x z : Int32) (a : Nat) (ha : jx_cl a = 9), jx_Ev d 1 83 lv (.int z :: .int x :: .ref a :: st) M Q ↔ (vp_in x (jx_sz a) ∧ jx_Ev d 1 84 lv st (jx_up M a x.toNatClampNeg z) Q)) ∧
  (∀ (d : Nat) (st : List Value) (M : jx_M) (Q : jx_Po) (l1 l2 l3 l4 l5 : Option Value) (x : Nat), jx_Ev d 1 84 [some (.ref x), l1, l2, l3, l4, l5] st M Q ↔ jx_Ev d 1 85 [some (.ref x), l1, l2, l3, l4, l5] (.ref x :: st) M Q) ∧
  (∀ (d : Nat) (lv : List (Option Value)) (st : List Value) (M : jx_M) (Q : jx_Po), jx_Ev d 1 85 lv (.ref 9 :: st) M Q ↔ jx_Ev d 1 88 lv (.ref 12 :: st) M Q) ∧
  (∀ (d : Nat) (st : List Value) (M : jx_M) (Q : jx_Po) (l0 l1 l2 l4 l5 : Option Value) (x : Int32), jx_Ev d 1 88 [l0, l1, l2, some (.int x), l4, l5] st M Q ↔ jx_Ev d 1 89 [l0, l1, l2, some (.int x), l4, l5] (.int x :: st) M Q) ∧
  (∀ (d : Nat) (lv : List (Option Value)) (st : List Value) (M : jx_M) (Q : jx_Po) (x : Int32) (z : Nat), jx_Ev d 1 89 lv (.int x :: .ref z :: st) M Q ↔ jx_Ev d 1 90 lv (.int x :: .ref z :: .int x :: .ref z :: st) M Q) ∧
  (∀ (d : Nat) (lv : List (Option Value)) (st : List Value) (M : jx_M) (Q : jx_Po) (x : Int32) (a : Nat) (ha : jx_cl a = 9), jx_Ev d 1 90 lv (.int x :: .ref a :: st) M Q ↔ (vp_in x (jx_sz a) ∧ jx_Ev d 1 91 lv (.int (M a x.toNatClampNeg) :: st) M Q)) ∧
  (∀ (d : Nat) (st : List Value) (M : jx_M) (Q : jx_Po) (l0 l1 l2 l3 l5 : Option Value) (x : Int32), jx_Ev d 1 91 [l0, l1, l2, l3, some (.int x), l5] st M Q ↔ jx_Ev d 1 93 [l0, l1, l2, l3, some (.int x), l5] (.int x :: st) M Q) ∧
  (∀ (d : Nat) (lv : List (Option Value)) (st : List Value) (M : jx_M) (Q : jx_Po) (x z : Int32), jx_Ev d 1 93 lv (.int z :: .int x :: st) M Q ↔ jx_Ev d 1 94 lv (.int (x + z) :: st) M Q) ∧
  (∀ (d : Nat) (lv : List (Option Value)) (st : List Value) (M : jx_M) (Q : jx_Po) (x z : Int32) (a : Nat) (ha : jx_cl a = 9), jx_Ev d 1 94 lv (.int z :: .int x :: .ref a :: st) M Q ↔ (vp_in x (jx_sz a) ∧ jx_Ev d 1 95 lv st (jx_up M a x.toNatClampNeg z) Q)) ∧
  (∀ (d : Nat) (st : List Value) (M : jx_M) (Q : jx_Po) (l1 l2 l3 l4 l5 : Option Value) (x : Nat), jx_Ev d 1 95 [some (.ref x), l1, l2, l3, l4, l5] st M Q ↔ jx_Ev d 1 96 [some (.ref x), l1, l2, l3, l4, l5] (.ref x :: st) M Q) ∧
  (∀ (d : Nat) (st : List Value) (M : jx_M) (Q : jx_Po) (l0 l2 l3 l4 l5 : Option Value) (x : Int32), jx_Ev d 1 96 [l0, some (.int x), l2, l3, l4, l5] st M Q ↔ jx_Ev d 1 97 [l0, some (.int x), l2, l3, l4, l5] (.int x :: st) M Q) ∧
  (∀ (d : Nat) (lv : List (Option Value)) (st : List Value) (M : jx_M) (Q : jx_Po), jx_Ev d 1 97 lv st M Q ↔ jx_Ev d 1 98 lv (.int 1 :: st) M Q) ∧
  (∀ (d : Nat) (lv : List (Option Value)) (st : List Value) (M : jx_M) (Q : jx_Po) (x z : Int32), jx_Ev d 1 98 lv (.int z :: .int x :: st) M Q ↔ jx_Ev d 1 99 lv (.int (x + z) :: st) M Q) ∧
  (∀ (d : Nat) (st : List Value) (M : jx_M) (Q : jx_Po) (l0 l1 l3 l4 l5 : Option Value) (x : Int32), jx_Ev d 1 99 [l0, l1, some (.int x), l3, l4, l5] st M Q ↔ jx_Ev d 1 100 [l0, l1, some (.int x), l3, l4, l5] (.int x :: st) M Q) ∧
  (∀ (d : Nat) (st : List Value) (M : jx_M) (Q : jx_Po) (l1 l2 l3 l4 l5 : Option Value) (x : Nat), jx_Ev d 1 100 [some (.ref x), l1, l2, l3, l4, l5] st M Q ↔ jx_Ev d 1 101 [some (.ref x), l1, l2, l3, l4, l5] (.ref x :: st) M Q) ∧
  (∀ (d : Nat) (st : List Value) (M : jx_M) (Q : jx_Po) (l0 l1 l2 l4 l5 : Option Value) (x : Int32), jx_Ev d 1 101 [l0, l1, l2, some (.int x), l4, l5] st M Q ↔ jx_Ev d 1 102 [l0, l1, l2, some (.int x), l4, l5] (.int x :: st) M Q) ∧
  (∀ (d : Nat) (lv : List (Option Value)) (M : jx_M) (Q : jx_Po) (a0 : Int32) (a2 : Int32) (a3 : Int32) (a4 : Nat), jx_Ev (d + 1) 1 102 lv [.int a0, .ref 9, .int a2, .int a3, .ref a4] M Q ↔ jx_I d 2 [.ref 9, .int a0] M (fun x M => jx_Ev (d + 1) 1 105 lv (.int x :: [.int a2, .int a3, .ref a4]) M Q)) ∧
  (∀ (d : Nat) (lv : List (Option Value)) (st : List Value) (M : jx_M) (Q : jx_Po) (x z : Int32), jx_Ev d 1 105 lv (.int z :: .int x :: st) M Q ↔ jx_Ev d 1 106 lv (.int (x + z) :: st) M Q) ∧
  (∀ (d : Nat) (st : List Value) (M : jx_M) (Q : jx_Po) (l0 l1 l2 l3 l4 : Option Value) (x : Int32), jx_Ev d 1 106 [l0, l1, l2, l3, l4, some (.int x)] st M Q ↔ jx_Ev d 1 108 [l0, l1, l2, l3, l4, some (.int x)] (.int x :: st) M Q) ∧
  (∀ (d : Nat) (lv : List (Option Value)) (st : List Value) (M : jx_M) (Q : jx_Po) (x z : Int32), jx_Ev d 1 108 lv (.int z :: .int x :: st) M Q ↔ jx_Ev d 1 109 lv (.int (x - z) :: st) M Q) ∧
  (∀ (d : Nat) (lv : List (Option Value)) (M : jx_M) (Q : jx_Po) (a0 : Int32) (a1 : Int32) (a2 : Nat), jx_Ev (d + 1) 1 109 lv [.int a0, .int a1, .ref a2] M Q ↔ jx_V d 1 [.ref a2, .int a1, .int a0] M (fun M => jx_Ev (d + 1) 1 112 lv [] M Q)) ∧
  (∀ (d : Nat) (st : List Value) (M : jx_M) (Q : jx_Po) (l1 l2 l3 l4 l5 : Option Value) (x : Nat), jx_Ev d 1 112 [some (.ref x), l1, l2, l3, l4, l5] st M Q ↔ jx_Ev d 1 113 [some (.ref x), l1, l2, l3, l4, l5] (.ref x :: st) M Q) ∧
  (∀ (d : Nat) (lv : List (Option Value)) (st : List Value) (M : jx_M) (Q : jx_Po), jx_Ev d 1 113 lv (.ref 9 :: st) M Q ↔ jx_Ev d 1 116 lv (.ref 12 :: st) M Q) ∧
  (∀ (d : Nat) (st : List Value) (M : jx_M) (Q : jx_Po) (l0 l1 l2 l4 l5 : Option Value) (x : Int32), jx_Ev d 1 116 [l0, l1, l2, some (.int x), l4, l5] st M Q ↔ jx_Ev d 1 117 [l0, l1, l2, some (.int x), l4, l5] (.int x :: st) M Q) ∧
  (∀ (d : Nat) (lv : List (Option Value)) (st : List Value) (M : jx_M) (Q : jx_Po) (x : Int32) (z : Nat), jx_Ev d 1 117 lv (.int x :: .ref z :: st) M Q ↔ jx_Ev d 1 118 lv (.int x :: .ref z :: .int x :: .ref z :: st) M Q) ∧
  (∀ (d : Nat) (lv : List (Option Value)) (st : List Value) (M : jx_M) (Q : jx_Po) (x : Int32) (a : Nat) (ha : jx_cl a = 9), jx_Ev d 1 118 lv (.int x :: .ref a :: st) M Q ↔ (vp_in x (jx_sz a) ∧ jx_Ev d 1 119 lv (.int (M a x.toNatClampNeg) :: st) M Q)) ∧
  (∀ (d : Nat) (st : List Value) (M : jx_M) (Q : jx_Po) (l0 l1 l2 l3 l5 : Option Value) (x : Int32), jx_Ev d 1 119 [l0, l1, l2, l3, some (.int x), l5] st M Q ↔ jx_Ev d 1 121 [l0, l1, l2, l3, some (.int x), l5] (.int x :: st) M Q) ∧
  (∀ (d : Nat) (lv : List (Option Value)) (st : List Value) (M : jx_M) (Q : jx_Po) (x z : Int32), jx_Ev d 1 121 lv (.int z :: .int x :: st) M Q ↔ jx_Ev d 1 122 lv (.int (x - z) :: st) M Q) ∧
  (∀ (d : Nat) (lv : List (Option Value)) (st : List Value) (M : jx_M) (Q : jx_Po) (x z : Int32) (a : Nat) (ha : jx_cl a = 9), jx_Ev d 1 122 lv (.int z :: .int x :: .ref a :: st) M Q ↔ (vp_in x (jx_sz a) ∧ jx_Ev d 1 123 lv st (jx_up M a x.toNatClampNeg z) Q)) ∧
  (∀ (d : Nat) (st : List Value) (M : jx_M) (Q : jx_Po) (l0 l1 l2 l4 l5 : Option Value) (x : Int32), jx_Ev d 1 123 [l0, l1, l2, some (.int x), l4, l5] st M Q ↔ jx_Ev d 1 126 [l0, l1, l2, some (.int (x + 1)), l4, l5] st M Q) ∧
  (∀ (d : Nat) (lv : List (Option Value)) (st : List Value) (M : jx_M) (Q : jx_Po), jx_Ev d 1 126 lv st M Q ↔ jx_Ev d 1 54 lv st M Q) ∧
  (∀ (d : Nat) (lv : List (Option Value)) (M : jx_M) (Q : jx_Po), jx_Ev d 1 129 lv [] M Q ↔ Q [] M) := by
  refine ⟨?_, ?_, ?_, ?_, ?_, ?_, ?_, ?_, ?_, ?_, ?_, ?_, ?_, ?_, ?_, ?_, ?_, ?_, ?_, ?_, ?_, ?_, ?_, ?_, ?_, ?_, ?_, ?_, ?_, ?_, ?_, ?_, ?_, ?_, ?_, ?_, ?_, ?_, ?_, ?_, ?_, ?_, ?_, ?_, ?_, ?_, ?_, ?_, ?_, ?_, ?_, ?_, ?_, ?_, ?_, ?_, ?_, ?_, ?_, ?_, ?_, ?_, ?_, ?_, ?_, ?_, ?_, ?_, ?_, ?_, ?_, ?_, ?_, ?_, ?_, ?_, ?_, ?_, ?_, ?_⟩
  · exact fun d st M Q l0 l1 l3 l4 l5 x => jx_ev_st (jx_fok (by decide +kernel : decode (jx_mb 1) 0 = .ok (.iload_n 2, 1))) rfl rfl rfl
  · exact fun d st M Q l1 l2 l3 l4 l5 x => jx_ev_st (jx_fok (by decide +kernel : decode (jx_mb 1) 1 = .ok (.aload_n 0, 1))) rfl rfl rfl
  · exact fun d lv st M Q => jx_k_gf (jx_fok (by decide +kernel : decode (jx_mb 1) 2 = .ok (.getfield 15, 3))) rfl rfl rfl
  · exact fun d lv st M Q x z => jx_k_b2 (jx_fok (by decide +kernel : decode (jx_mb 1) 5 = .ok (.if_icmp .lt 4, 3))) rfl jx_hLt
  · exact fun d lv M Q => jx_k_rv (jx_fok (by decide +kernel : decode (jx_mb 1) 8 = .ok (.return_, 1))) rfl
  · exact fun d st M Q l0 l2 l3 l4 l5 x => jx_ev_st (jx_fok (by decide +kernel : decode (jx_mb 1) 9 = .ok (.iload_n 1, 1))) rfl rfl rfl
  · exact fun d lv st M Q => jx_ev_st (jx_fok (by decide +kernel : decode (jx_mb 1) 10 = .ok (.bipush 6, 2))) rfl rfl rfl
  · exact fun d lv st M Q x z => jx_k_b2 (jx_fok (by decide +kernel : decode (jx_mb 1) 12 = .ok (.if_icmp .lt 9, 3))) rfl jx_hLt
  · exact fun d st M Q l1 l2 l3 l4 l5 x => jx_ev_st (jx_fok (by decide +kernel : decode (jx_mb 1) 15 = .ok (.aload_n 0, 1))) rfl rfl rfl
  · exact fun d st M Q l0 l1 l3 l4 l5 x => jx_ev_st (jx_fok (by decide +kernel : decode (jx_mb 1) 16 = .ok (.iload_n 2, 1))) rfl rfl rfl
  · exact fun d lv M Q a0 => jx_ev_cv (jx_fok (by decide +kernel : decode (jx_mb 1) 17 = .ok (.invokevirtual 39, 3))) rfl (jx_ccV (As := [.int a0]) (rest := []) rfl rfl rfl rfl rfl rfl) rfl
  · exact fun d lv M Q => jx_k_rv (jx_fok (by decide +kernel : decode (jx_mb 1) 20 = .ok (.return_, 1))) rfl
  · exact fun d st M Q l1 l2 l3 l4 l5 x => jx_ev_st (jx_fok (by decide +kernel : decode (jx_mb 1) 21 = .ok (.aload_n 0, 1))) rfl rfl rfl
  · exact fun d lv st M Q => jx_k_gf (jx_fok (by decide +kernel : decode (jx_mb 1) 22 = .ok (.getfield 25, 3))) rfl rfl rfl
  · exact fun d lv st M Q k => jx_k_nr (jx_fok (by decide +kernel : decode (jx_mb 1) 25 = .ok (.ifnull 18, 3)))
  · exact fun d lv st M Q => jx_k_nn (jx_fok (by decide +kernel : decode (jx_mb 1) 25 = .ok (.ifnull 18, 3))) rfl
  · exact fun d st M Q l1 l2 l3 l4 l5 x => jx_ev_st (jx_fok (by decide +kernel : decode (jx_mb 1) 28 = .ok (.aload_n 0, 1))) rfl rfl rfl
  · exact fun d lv st M Q => jx_k_gf (jx_fok (by decide +kernel : decode (jx_mb 1) 29 = .ok (.getfield 25, 3))) rfl rfl rfl
  · exact fun d st M Q l0 l2 l3 l4 l5 x => jx_ev_st (jx_fok (by decide +kernel : decode (jx_mb 1) 32 = .ok (.iload_n 1, 1))) rfl rfl rfl
  · exact fun d st M Q l1 l2 l3 l4 l5 x => jx_ev_st (jx_fok (by decide +kernel : decode (jx_mb 1) 33 = .ok (.aload_n 0, 1))) rfl rfl rfl
  · exact fun d lv st M Q => jx_k_gf (jx_fok (by decide +kernel : decode (jx_mb 1) 34 = .ok (.getfield 29, 3))) rfl rfl rfl
  · exact fun d lv M Q a0 a1 a2 hk => jx_ev_ci (jx_fok (by decide +kernel : decode (jx_mb 1) 37 = .ok (.invokevirtual 43, 3))) rfl (jx_ccV (As := [.int a1, .int a0]) (rest := []) rfl rfl rfl hk rfl rfl) (by decide)
  · exact fun d lv st M Q x => jx_k_b1n (jx_fok (by decide +kernel : decode (jx_mb 1) 40 = .ok (.ifCond .ne 12, 3))) rfl jx_hNe
  · exact fun d st M Q l1 l2 l3 l4 l5 x => jx_ev_st (jx_fok (by decide +kernel : decode (jx_mb 1) 43 = .ok (.aload_n 0, 1))) rfl rfl rfl
  · exact fun d st M Q l0 l2 l3 l4 l5 x => jx_ev_st (jx_fok (by decide +kernel : decode (jx_mb 1) 44 = .ok (.iload_n 1, 1))) rfl rfl rfl
  · exact fun d lv st M Q => jx_ev_st (jx_fok (by decide +kernel : decode (jx_mb 1) 45 = .ok (.iconst 1, 1))) rfl rfl rfl
  · exact fun d lv st M Q x z => jx_ev_st (jx_fok (by decide +kernel : decode (jx_mb 1) 46 = .ok (.iadd, 1))) rfl rfl rfl
  · exact fun d st M Q l0 l1 l3 l4 l5 x => jx_ev_st (jx_fok (by decide +kernel : decode (jx_mb 1) 47 = .ok (.iload_n 2, 1))) rfl rfl rfl
  · exact fun d lv M Q a0 a1 a2 => jx_ev_cv (jx_fok (by decide +kernel : decode (jx_mb 1) 48 = .ok (.invokestatic 35, 3))) rfl (jx_ccS (As := [.ref a2, .int a1, .int a0]) (rest := []) rfl rfl rfl rfl rfl) rfl
  · exact fun d lv M Q => jx_k_rv (jx_fok (by decide +kernel : decode (jx_mb 1) 51 = .ok (.return_, 1))) rfl
  · exact fun d lv st M Q => jx_ev_st (jx_fok (by decide +kernel : decode (jx_mb 1) 52 = .ok (.iconst 0, 1))) rfl rfl rfl
  · exact fun d st M Q l0 l1 l2 l3 l4 l5 x => jx_ev_st (jx_fok (by decide +kernel : decode (jx_mb 1) 53 = .ok (.istore_n 3, 1))) rfl rfl rfl
  · exact fun d lv st M Q => jx_ev_st (jx_fok (by decide +kernel : decode (jx_mb 1) 55 = .ok (.iconst 4, 1))) rfl rfl rfl
  · exact fun d lv st M Q x z => jx_k_b2 (jx_fok (by decide +kernel : decode (jx_mb 1) 56 = .ok (.if_icmp .ge 73, 3))) rfl jx_hGe
  · exact fun d st M Q l1 l2 l3 l4 l5 x => jx_ev_st (jx_fok (by decide +kernel : decode (jx_mb 1) 59 = .ok (.aload_n 0, 1))) rfl rfl rfl
  · exact fun d lv st M Q => jx_k_gf (jx_fok (by decide +kernel : decode (jx_mb 1) 60 = .ok (.getfield 25, 3))) rfl rfl rfl
  · exact fun d st M Q l0 l2 l3 l4 l5 x => jx_ev_st (jx_fok (by decide +kernel : decode (jx_mb 1) 63 = .ok (.iload_n 1, 1))) rfl rfl rfl
  · exact fun d st M Q l0 l1 l2 l4 l5 x => jx_ev_st (jx_fok (by decide +kernel : decode (jx_mb 1) 64 = .ok (.iload_n 3, 1))) rfl rfl rfl
  · exact fun d lv M Q a0 a1 a2 hk => jx_ev_ci (jx_fok (by decide +kernel : decode (jx_mb 1) 65 = .ok (.invokevirtual 49, 3))) rfl (jx_ccV (As := [.int a1, .int a0]) (rest := []) rfl rfl rfl hk rfl rfl) (by decide)
  · exact fun d st M Q l0 l1 l2 l3 l4 l5 x => jx_ev_st (jx_fok (by decide +kernel : decode (jx_mb 1) 68 = .ok (.istore 4, 2))) rfl rfl rfl
  · exact fun d st M Q l1 l2 l3 l4 l5 x => jx_ev_st (jx_fok (by decide +kernel : decode (jx_mb 1) 70 = .ok (.aload_n 0, 1))) rfl rfl rfl
  · exact fun d st M Q l0 l1 l2 l4 l5 x => jx_ev_st (jx_fok (by decide +kernel : decode (jx_mb 1) 71 = .ok (.iload_n 3, 1))) rfl rfl rfl
  · exact fun d lv M Q a0 => jx_ev_ci (jx_fok (by decide +kernel : decode (jx_mb 1) 72 = .ok (.invokevirtual 53, 3))) rfl (jx_ccV (As := [.int a0]) (rest := []) rfl rfl rfl rfl rfl rfl) (by decide)
  · exact fun d st M Q l0 l1 l2 l3 l4 l5 x => jx_ev_st (jx_fok (by decide +kernel : decode (jx_mb 1) 75 = .ok (.istore 5, 2))) rfl rfl rfl
  · exact fun d st M Q l1 l2 l3 l4 l5 x => jx_ev_st (jx_fok (by decide +kernel : decode (jx_mb 1) 77 = .ok (.aload_n 0, 1))) rfl rfl rfl
  · exact fun d lv st M Q => jx_k_gf (jx_fok (by decide +kernel : decode (jx_mb 1) 78 = .ok (.getfield 19, 3))) rfl rfl rfl
  · exact fun d st M Q l0 l2 l3 l4 l5 x => jx_ev_st (jx_fok (by decide +kernel : decode (jx_mb 1) 81 = .ok (.iload_n 1, 1))) rfl rfl rfl
  · exact fun d st M Q l0 l1 l2 l4 l5 x => jx_ev_st (jx_fok (by decide +kernel : decode (jx_mb 1) 82 = .ok (.iload_n 3, 1))) rfl rfl rfl
  · exact fun d lv st M Q x z a ha => jx_k_as (jx_fok (by decide +kernel : decode (jx_mb 1) 83 = .ok (.iastore, 1))) ha
  · exact fun d st M Q l1 l2 l3 l4 l5 x => jx_ev_st (jx_fok (by decide +kernel : decode (jx_mb 1) 84 = .ok (.aload_n 0, 1))) rfl rfl rfl
  · exact fun d lv st M Q => jx_k_gf (jx_fok (by decide +kernel : decode (jx_mb 1) 85 = .ok (.getfield 22, 3))) rfl rfl rfl
  · exact fun d st M Q l0 l1 l2 l4 l5 x => jx_ev_st (jx_fok (by decide +kernel : decode (jx_mb 1) 88 = .ok (.iload_n 3, 1))) rfl rfl rfl
  · exact fun d lv st M Q x z => jx_ev_st (jx_fok (by decide +kernel : decode (jx_mb 1) 89 = .ok (.dup2, 1))) rfl rfl rfl
  · exact fun d lv st M Q x a ha => jx_k_al (jx_fok (by decide +kernel : decode (jx_mb 1) 90 = .ok (.iaload, 1))) ha
  · exact fun d st M Q l0 l1 l2 l3 l5 x => jx_ev_st (jx_fok (by decide +kernel : decode (jx_mb 1) 91 = .ok (.iload 4, 2))) rfl rfl rfl
  · exact fun d lv st M Q x z => jx_ev_st (jx_fok (by decide +kernel : decode (jx_mb 1) 93 = .ok (.iadd, 1))) rfl rfl rfl
  · exact fun d lv st M Q x z a ha => jx_k_as (jx_fok (by decide +kernel : decode (jx_mb 1) 94 = .ok (.iastore, 1))) ha
  · exact fun d st M Q l1 l2 l3 l4 l5 x => jx_ev_st (jx_fok (by decide +kernel : decode (jx_mb 1) 95 = .ok (.aload_n 0, 1))) rfl rfl rfl
  · exact fun d st M Q l0 l2 l3 l4 l5 x => jx_ev_st (jx_fok (by decide +kernel : decode (jx_mb 1) 96 = .ok (.iload_n 1, 1))) rfl rfl rfl
  · exact fun d lv st M Q => jx_ev_st (jx_fok (by decide +kernel : decode (jx_mb 1) 97 = .ok (.iconst 1, 1))) rfl rfl rfl
  · exact fun d lv st M Q x z => jx_ev_st (jx_fok (by decide +kernel : decode (jx_mb 1) 98 = .ok (.iadd, 1))) rfl rfl rfl
  · exact fun d st M Q l0 l1 l3 l4 l5 x => jx_ev_st (jx_fok (by decide +kernel : decode (jx_mb 1) 99 = .ok (.iload_n 2, 1))) rfl rfl rfl
  · exact fun d st M Q l1 l2 l3 l4 l5 x => jx_ev_st (jx_fok (by decide +kernel : decode (jx_mb 1) 100 = .ok (.aload_n 0, 1))) rfl rfl rfl
  · exact fun d st M Q l0 l1 l2 l4 l5 x => jx_ev_st (jx_fok (by decide +kernel : decode (jx_mb 1) 101 = .ok (.iload_n 3, 1))) rfl rfl rfl
  · exact fun d lv M Q a0 a2 a3 a4 => jx_ev_ci (jx_fok (by decide +kernel : decode (jx_mb 1) 102 = .ok (.invokevirtual 53, 3))) rfl (jx_ccV (As := [.int a0]) (rest := [.int a2, .int a3, .ref a4]) rfl rfl rfl rfl rfl rfl) (by decide)
  · exact fun d lv st M Q x z => jx_ev_st (jx_fok (by decide +kernel : decode (jx_mb 1) 105 = .ok (.iadd, 1))) rfl rfl rfl
  · exact fun d st M Q l0 l1 l2 l3 l4 x => jx_ev_st (jx_fok (by decide +kernel : decode (jx_mb 1) 106 = .ok (.iload 5, 2))) rfl rfl rfl
  · exact fun d lv st M Q x z => jx_ev_st (jx_fok (by decide +kernel : decode (jx_mb 1) 108 = .ok (.isub, 1))) rfl rfl rfl
  · exact fun d lv M Q a0 a1 a2 => jx_ev_cv (jx_fok (by decide +kernel : decode (jx_mb 1) 109 = .ok (.invokestatic 35, 3))) rfl (jx_ccS (As := [.ref a2, .int a1, .int a0]) (rest := []) rfl rfl rfl rfl rfl) rfl
  · exact fun d st M Q l1 l2 l3 l4 l5 x => jx_ev_st (jx_fok (by decide +kernel : decode (jx_mb 1) 112 = .ok (.aload_n 0, 1))) rfl rfl rfl
  · exact fun d lv st M Q => jx_k_gf (jx_fok (by decide +kernel : decode (jx_mb 1) 113 = .ok (.getfield 22, 3))) rfl rfl rfl
  · exact fun d st M Q l0 l1 l2 l4 l5 x => jx_ev_st (jx_fok (by decide +kernel : decode (jx_mb 1) 116 = .ok (.iload_n 3, 1))) rfl rfl rfl
  · exact fun d lv st M Q x z => jx_ev_st (jx_fok (by decide +kernel : decode (jx_mb 1) 117 = .ok (.dup2, 1))) rfl rfl rfl
  · exact fun d lv st M Q x a ha => jx_k_al (jx_fok (by decide +kernel : decode (jx_mb 1) 118 = .ok (.iaload, 1))) ha
  · exact fun d st M Q l0 l1 l2 l3 l5 x => jx_ev_st (jx_fok (by decide +kernel : decode (jx_mb 1) 119 = .ok (.iload 4, 2))) rfl rfl rfl
  · exact fun d lv st M Q x z => jx_ev_st (jx_fok (by decide +kernel : decode (jx_mb 1) 121 = .ok (.isub, 1))) rfl rfl rfl
  · exact fun d lv st M Q x z a ha => jx_k_as (jx_fok (by decide +kernel : decode (jx_mb 1) 122 = .ok (.iastore, 1))) ha
  · exact fun d st M Q l0 l1 l2 l4 l5 x => jx_ev_st (jx_fok (by decide +kernel : decode (jx_mb 1) 123 = .ok (.iinc 3 1, 3))) rfl rfl rfl
  · exact fun d lv st M Q => jx_k_goto (jx_fok (by decide +kernel : decode (jx_mb 1) 126 = .ok (.goto (-72), 3))) rfl
  · exact fun d lv M Q => jx_k_rv (jx_fok (by decide +kernel : decode (jx_mb 1) 129 = .ok (.return_, 1))) rfl
theorem eX0_settleFrom_54 (d : Nat) (st : List Value) (M : jx_M) (Q : jx_Po) (l0 l1 l2 l4 l5 : Option Value) (x : Int32) : jx_Ev d 1 54 [l0, l1, l2, some (.int x), l4, l5] st M Q ↔ jx_Ev d 1 55 [l0, l1, l2, some (.int x), l4, l5] (.int x :: st) M Q := jx_ev_st (jx_fok (by decide +kernel : decode (jx_mb 1) 54 = .ok (.iload_n 3, 1))) rfl rfl rfl
theorem kX0_settleFrom (d : Nat) (M : jx_M) (q : jx_M → Prop) (a0 a1 a2 : Value) : jx_V d 1 [a0, a1, a2] M q ↔ jx_Ev d 1 0 [some a0, some a1, some a2, none, none, none] [] M (jx_qV q) := Iff.rfl
set_option maxRecDepth 100000 in
theorem eX0_harmIn :
  (∀ (d : Nat) (st : List Value) (M : jx_M) (Q : jx_Po) (l1 : Option Value) (x : Nat), jx_Ev d 2 0 [some (.ref x), l1] st M Q ↔ jx_Ev d 2 1 [some (.ref x), l1] (.ref x :: st) M Q) ∧
  (∀ (d : Nat) (lv : List (Option Value)) (st : List Value) (M : jx_M) (Q : jx_Po), jx_Ev d 2 1 lv (.ref 9 :: st) M Q ↔ jx_Ev d 2 4 lv (jx_rv (M 9 4) :: st) M Q) ∧
  (∀ (d : Nat) (lv : List (Option Value)) (st : List Value) (M : jx_M) (Q : jx_Po) (k : Nat), jx_Ev d 2 4 lv (.ref k :: st) M Q ↔ jx_Ev d 2 7 lv st M Q) ∧
  (∀ (d : Nat) (lv : List (Option Value)) (st : List Value) (M : jx_M) (Q : jx_Po), jx_Ev d 2 4 lv (.null :: st) M Q ↔ jx_Ev d 2 21 lv st M Q) ∧
  (∀ (d : Nat) (st : List Value) (M : jx_M) (Q : jx_Po) (l1 : Option Value) (x : Nat), jx_Ev d 2 7 [some (.ref x), l1] st M Q ↔ jx_Ev d 2 8 [some (.ref x), l1] (.ref x :: st) M Q) ∧
  (∀ (d : Nat) (lv : List (Option Value)) (st : List Value) (M : jx_M) (Q : jx_Po), jx_Ev d 2 8 lv (.ref 9 :: st) M Q ↔ jx_Ev d 2 11 lv (jx_rv (M 9 4) :: st) M Q) ∧
  (∀ (d : Nat) (st : List Value) (M : jx_M) (Q : jx_Po) (l1 : Option Value) (x : Nat), jx_Ev d 2 11 [some (.ref x), l1] st M Q ↔ jx_Ev d 2 12 [some (.ref x), l1] (.ref x :: st) M Q) ∧
  (∀ (d : Nat) (lv : List (Option Value)) (st : List Value) (M : jx_M) (Q : jx_Po), jx_Ev d 2 12 lv (.ref 9 :: st) M Q ↔ jx_Ev d 2 15 lv (.int (M 9 5) :: st) M Q) ∧
  (∀ (d : Nat) (lv : List (Option Value)) (M : jx_M) (Q : jx_Po) (a0 : Int32) (a1 : Nat) (hk : jx_cl a1 = 1), jx_Ev (d + 1) 2 15 lv [.int a0, .ref a1] M Q ↔ jx_I d 5 [.ref a1, .int a0] M (fun x M => jx_Ev (d + 1) 2 18 lv (.int x :: []) M Q)) ∧
  (∀ (d : Nat) (lv : List (Option Value)) (st : List Value) (M : jx_M) (Q : jx_Po) (x : Int32), jx_Ev d 2 18 lv (.int x :: st) M Q ↔ (if x = 0 then jx_Ev d 2 21 lv st M Q else jx_Ev d 2 23 lv st M Q)) ∧
  (∀ (d : Nat) (lv : List (Option Value)) (st : List Value) (M : jx_M) (Q : jx_Po), jx_Ev d 2 21 lv st M Q ↔ jx_Ev d 2 22 lv (.int 0 :: st) M Q) ∧
  (∀ (d : Nat) (lv : List (Option Value)) (M : jx_M) (Q : jx_Po) (x : Int32), jx_Ev d 2 22 lv [.int x] M Q ↔ Q [.int x] M) ∧
  (∀ (d : Nat) (lv : List (Option Value)) (st : List Value) (M : jx_M) (Q : jx_Po), jx_Ev d 2 23 lv st M Q ↔ jx_Ev d 2 24 lv (.int 0 :: st) M Q) ∧
  (∀ (d : Nat) (st : List Value) (M : jx_M) (Q : jx_Po) (l1 : Option Value) (x : Nat), jx_Ev d 2 24 [some (.ref x), l1] st M Q ↔ jx_Ev d 2 25 [some (.ref x), l1] (.ref x :: st) M Q) ∧
  (∀ (d : Nat) (lv : List (Option Value)) (st : List Value) (M : jx_M) (Q : jx_Po), jx_Ev d 2 25 lv (.ref 9 :: st) M Q ↔ jx_Ev d 2 28 lv (.ref 12 :: st) M Q) ∧
  (∀ (d : Nat) (st : List Value) (M : jx_M) (Q : jx_Po) (l0 : Option Value) (x : Int32), jx_Ev d 2 28 [l0, some (.int x)] st M Q ↔ jx_Ev d 2 29 [l0, some (.int x)] (.int x :: st) M Q) ∧
  (∀ (d : Nat) (lv : List (Option Value)) (st : List Value) (M : jx_M) (Q : jx_Po) (x : Int32) (a : Nat) (ha : jx_cl a = 9), jx_Ev d 2 29 lv (.int x :: .ref a :: st) M Q ↔ (vp_in x (jx_sz a) ∧ jx_Ev d 2 30 lv (.int (M a x.toNatClampNeg) :: st) M Q)) ∧
  (∀ (d : Nat) (st : List Value) (M : jx_M) (Q : jx_Po) (l1 : Option Value) (x : Nat), jx_Ev d 2 30 [some (.ref x), l1] st M Q ↔ jx_Ev d 2 31 [some (.ref x), l1] (.ref x :: st) M Q) ∧
  (∀ (d : Nat) (lv : List (Option Value)) (st : List Value) (M : jx_M) (Q : jx_Po), jx_Ev d 2 31 lv (.ref 9 :: st) M Q ↔ jx_Ev d 2 34 lv (jx_rv (M 9 4) :: st) M Q) ∧
  (∀ (d : Nat) (lv : List (Option Value)) (st : List Value) (M : jx_M) (Q : jx_Po) (k : Nat) (hk : jx_cl k = 1), jx_Ev d 2 34 lv (.ref k :: st) M Q ↔ jx_Ev d 2 37 lv (.ref (k + 1) :: st) M Q) ∧
  (∀ (d : Nat) (st : List Value) (M : jx_M) (Q : jx_Po) (l1 : Option Value) (x : Nat), jx_Ev d 2 37 [some (.ref x), l1] st M Q ↔ jx_Ev d 2 38 [some (.ref x), l1] (.ref x :: st) M Q) ∧
  (∀ (d : Nat) (lv : List (Option Value)) (st : List Value) (M : jx_M) (Q : jx_Po), jx_Ev d 2 38 lv (.ref 9 :: st) M Q ↔ jx_Ev d 2 41 lv (.int (M 9 5) :: st) M Q) ∧
  (∀ (d : Nat) (lv : List (Option Value)) (st : List Value) (M : jx_M) (Q : jx_Po) (x : Int32) (a : Nat) (ha : jx_cl a = 9), jx_Ev d 2 41 lv (.int x :: .ref a :: st) M Q ↔ (vp_in x (jx_sz a) ∧ jx_Ev d 2 42 lv (.int (M a x.toNatClampNeg) :: st) M Q)) ∧
  (∀ (d : Nat) (lv : List (Option Value)) (st : List Value) (M : jx_M) (Q : jx_Po) (x z : Int32), jx_Ev d 2 42 lv (.int z :: .int x :: st) M Q ↔ jx_Ev d 2 43 lv (.int (x - z) :: st) M Q) ∧
  (∀ (d : Nat) (lv : List (Option Value)) (M : jx_M) (Q : jx_Po) (a0 : Int32) (a1 : Int32), jx_Ev (d + 1) 2 43 lv [.int a0, .int a1] M Q ↔ jx_Ev (d + 1) 2 46 lv (.int (if a1 < a0 then a0 else a1) :: []) M Q) ∧
  (∀ (d : Nat) (lv : List (Option Value)) (M : jx_M) (Q : jx_Po) (x : Int32), jx_Ev d 2 46 lv [.int x] M Q ↔ Q [.int x] M) := by
  refine ⟨?_, ?_, ?_, ?_, ?_, ?_, ?_, ?_, ?_, ?_, ?_, ?_, ?_, ?_, ?_, ?_, ?_, ?_, ?_, ?_, ?_, ?_, ?_, ?_, ?_, ?_⟩
  · exact fun d st M Q l1 x => jx_ev_st (jx_fok (by decide +kernel : decode (jx_mb 2) 0 = .ok (.aload_n 0, 1))) rfl rfl rfl
  · exact fun d lv st M Q => jx_k_gf (jx_fok (by decide +kernel : decode (jx_mb 2) 1 = .ok (.getfield 25, 3))) rfl rfl rfl
  · exact fun d lv st M Q k => jx_k_nr (jx_fok (by decide +kernel : decode (jx_mb 2) 4 = .ok (.ifnull 17, 3)))
  · exact fun d lv st M Q => jx_k_nn (jx_fok (by decide +kernel : decode (jx_mb 2) 4 = .ok (.ifnull 17, 3))) rfl
  · exact fun d st M Q l1 x => jx_ev_st (jx_fok (by decide +kernel : decode (jx_mb 2) 7 = .ok (.aload_n 0, 1))) rfl rfl rfl
  · exact fun d lv st M Q => jx_k_gf (jx_fok (by decide +kernel : decode (jx_mb 2) 8 = .ok (.getfield 25, 3))) rfl rfl rfl
  · exact fun d st M Q l1 x => jx_ev_st (jx_fok (by decide +kernel : decode (jx_mb 2) 11 = .ok (.aload_n 0, 1))) rfl rfl rfl
  · exact fun d lv st M Q => jx_k_gf (jx_fok (by decide +kernel : decode (jx_mb 2) 12 = .ok (.getfield 29, 3))) rfl rfl rfl
  · exact fun d lv M Q a0 a1 hk => jx_ev_ci (jx_fok (by decide +kernel : decode (jx_mb 2) 15 = .ok (.invokevirtual 57, 3))) rfl (jx_ccV (As := [.int a0]) (rest := []) rfl rfl rfl hk rfl rfl) (by decide)
  · exact fun d lv st M Q x => jx_k_b1n (jx_fok (by decide +kernel : decode (jx_mb 2) 18 = .ok (.ifCond .ne 5, 3))) rfl jx_hNe
  · exact fun d lv st M Q => jx_ev_st (jx_fok (by decide +kernel : decode (jx_mb 2) 21 = .ok (.iconst 0, 1))) rfl rfl rfl
  · exact fun d lv M Q x => jx_k_ri (jx_fok (by decide +kernel : decode (jx_mb 2) 22 = .ok (.ireturn, 1))) rfl
  · exact fun d lv st M Q => jx_ev_st (jx_fok (by decide +kernel : decode (jx_mb 2) 23 = .ok (.iconst 0, 1))) rfl rfl rfl
  · exact fun d st M Q l1 x => jx_ev_st (jx_fok (by decide +kernel : decode (jx_mb 2) 24 = .ok (.aload_n 0, 1))) rfl rfl rfl
  · exact fun d lv st M Q => jx_k_gf (jx_fok (by decide +kernel : decode (jx_mb 2) 25 = .ok (.getfield 22, 3))) rfl rfl rfl
  · exact fun d st M Q l0 x => jx_ev_st (jx_fok (by decide +kernel : decode (jx_mb 2) 28 = .ok (.iload_n 1, 1))) rfl rfl rfl
  · exact fun d lv st M Q x a ha => jx_k_al (jx_fok (by decide +kernel : decode (jx_mb 2) 29 = .ok (.iaload, 1))) ha
  · exact fun d st M Q l1 x => jx_ev_st (jx_fok (by decide +kernel : decode (jx_mb 2) 30 = .ok (.aload_n 0, 1))) rfl rfl rfl
  · exact fun d lv st M Q => jx_k_gf (jx_fok (by decide +kernel : decode (jx_mb 2) 31 = .ok (.getfield 25, 3))) rfl rfl rfl
  · exact fun d lv st M Q k hk => jx_k_gf (jx_fok (by decide +kernel : decode (jx_mb 2) 34 = .ok (.getfield 61, 3))) rfl hk rfl
  · exact fun d st M Q l1 x => jx_ev_st (jx_fok (by decide +kernel : decode (jx_mb 2) 37 = .ok (.aload_n 0, 1))) rfl rfl rfl
  · exact fun d lv st M Q => jx_k_gf (jx_fok (by decide +kernel : decode (jx_mb 2) 38 = .ok (.getfield 29, 3))) rfl rfl rfl
  · exact fun d lv st M Q x a ha => jx_k_al (jx_fok (by decide +kernel : decode (jx_mb 2) 41 = .ok (.iaload, 1))) ha
  · exact fun d lv st M Q x z => jx_ev_st (jx_fok (by decide +kernel : decode (jx_mb 2) 42 = .ok (.isub, 1))) rfl rfl rfl
  · exact fun d lv M Q a0 a1 => jx_k_max (jx_fok (by decide +kernel : decode (jx_mb 2) 43 = .ok (.invokestatic 64, 3))) rfl rfl (Nat.le_of_ble_eq_true rfl)
  · exact fun d lv M Q x => jx_k_ri (jx_fok (by decide +kernel : decode (jx_mb 2) 46 = .ok (.ireturn, 1))) rfl
theorem kX0_harmIn (d : Nat) (M : jx_M) (q : Int32 → jx_M → Prop) (a0 a1 : Value) : jx_I d 2 [a0, a1] M q ↔ jx_Ev d 2 0 [some a0, some a1] [] M (jx_qI q) := Iff.rfl
set_option maxRecDepth 100000 in
theorem eX0_keepBest :
  (∀ (d : Nat) (st : List Value) (M : jx_M) (Q : jx_Po) (l1 l2 : Option Value) (x : Nat), jx_Ev d 3 0 [some (.ref x), l1, l2] st M Q ↔ jx_Ev d 3 1 [some (.ref x), l1, l2] (.ref x :: st) M Q) ∧
  (∀ (d : Nat) (st : List Value) (M : jx_M) (Q : jx_Po) (l0 l2 : Option Value) (x : Int32), jx_Ev d 3 1 [l0, some (.int x), l2] st M Q ↔ jx_Ev d 3 2 [l0, some (.int x), l2] (.int x :: st) M Q) ∧
  (∀ (d : Nat) (lv : List (Option Value)) (st : List Value) (M : jx_M) (Q : jx_Po) (x : Int32), jx_Ev d 3 2 lv (.int x :: .ref 9 :: st) M Q ↔ jx_Ev d 3 5 lv st (jx_up M 9 1 x) Q) ∧
  (∀ (d : Nat) (lv : List (Option Value)) (st : List Value) (M : jx_M) (Q : jx_Po), jx_Ev d 3 5 lv st M Q ↔ jx_Ev d 3 6 lv (.int 0 :: st) M Q) ∧
  (∀ (d : Nat) (st : List Value) (M : jx_M) (Q : jx_Po) (l0 l1 l2 : Option Value) (x : Int32), jx_Ev d 3 6 [l0, l1, l2] (.int x :: st) M Q ↔ jx_Ev d 3 7 [l0, l1, some (.int x)] st M Q) ∧
  (∀ (d : Nat) (lv : List (Option Value)) (st : List Value) (M : jx_M) (Q : jx_Po), jx_Ev d 3 8 lv st M Q ↔ jx_Ev d 3 10 lv (.int 6 :: st) M Q) ∧
  (∀ (d : Nat) (lv : List (Option Value)) (st : List Value) (M : jx_M) (Q : jx_Po) (x z : Int32), jx_Ev d 3 10 lv (.int z :: .int x :: st) M Q ↔ (if z ≤ x then jx_Ev d 3 31 lv st M Q else jx_Ev d 3 13 lv st M Q)) ∧
  (∀ (d : Nat) (st : List Value) (M : jx_M) (Q : jx_Po) (l1 l2 : Option Value) (x : Nat), jx_Ev d 3 13 [some (.ref x), l1, l2] st M Q ↔ jx_Ev d 3 14 [some (.ref x), l1, l2] (.ref x :: st) M Q) ∧
  (∀ (d : Nat) (lv : List (Option Value)) (st : List Value) (M : jx_M) (Q : jx_Po), jx_Ev d 3 14 lv (.ref 9 :: st) M Q ↔ jx_Ev d 3 17 lv (.ref 10 :: st) M Q) ∧
  (∀ (d : Nat) (st : List Value) (M : jx_M) (Q : jx_Po) (l0 l1 : Option Value) (x : Int32), jx_Ev d 3 17 [l0, l1, some (.int x)] st M Q ↔ jx_Ev d 3 18 [l0, l1, some (.int x)] (.int x :: st) M Q) ∧
  (∀ (d : Nat) (st : List Value) (M : jx_M) (Q : jx_Po) (l1 l2 : Option Value) (x : Nat), jx_Ev d 3 18 [some (.ref x), l1, l2] st M Q ↔ jx_Ev d 3 19 [some (.ref x), l1, l2] (.ref x :: st) M Q) ∧
  (∀ (d : Nat) (lv : List (Option Value)) (st : List Value) (M : jx_M) (Q : jx_Po), jx_Ev d 3 19 lv (.ref 9 :: st) M Q ↔ jx_Ev d 3 22 lv (.ref 11 :: st) M Q) ∧
  (∀ (d : Nat) (st : List Value) (M : jx_M) (Q : jx_Po) (l0 l1 : Option Value) (x : Int32), jx_Ev d 3 22 [l0, l1, some (.int x)] st M Q ↔ jx_Ev d 3 23 [l0, l1, some (.int x)] (.int x :: st) M Q) ∧
  (∀ (d : Nat) (lv : List (Option Value)) (st : List Value) (M : jx_M) (Q : jx_Po) (x : Int32) (a : Nat) (ha : jx_cl a = 9), jx_Ev d 3 23 lv (.int x :: .ref a :: st) M Q ↔ (vp_in x (jx_sz a) ∧ jx_Ev d 3 24 lv (.int (M a x.toNatClampNeg) :: st) M Q)) ∧
  (∀ (d : Nat) (lv : List (Option Value)) (st : List Value) (M : jx_M) (Q : jx_Po) (x z : Int32) (a : Nat) (ha : jx_cl a = 9), jx_Ev d 3 24 lv (.int z :: .int x :: .ref a :: st) M Q ↔ (vp_in x (jx_sz a) ∧ jx_Ev d 3 25 lv st (jx_up M a x.toNatClampNeg z) Q)) ∧
  (∀ (d : Nat) (st : List Value) (M : jx_M) (Q : jx_Po) (l0 l1 : Option Value) (x : Int32), jx_Ev d 3 25 [l0, l1, some (.int x)] st M Q ↔ jx_Ev d 3 28 [l0, l1, some (.int (x + 1))] st M Q) ∧
  (∀ (d : Nat) (lv : List (Option Value)) (st : List Value) (M : jx_M) (Q : jx_Po), jx_Ev d 3 28 lv st M Q ↔ jx_Ev d 3 7 lv st M Q) ∧
  (∀ (d : Nat) (lv : List (Option Value)) (M : jx_M) (Q : jx_Po), jx_Ev d 3 31 lv [] M Q ↔ Q [] M) := by
  refine ⟨?_, ?_, ?_, ?_, ?_, ?_, ?_, ?_, ?_, ?_, ?_, ?_, ?_, ?_, ?_, ?_, ?_, ?_⟩
  · exact fun d st M Q l1 l2 x => jx_ev_st (jx_fok (by decide +kernel : decode (jx_mb 3) 0 = .ok (.aload_n 0, 1))) rfl rfl rfl
  · exact fun d st M Q l0 l2 x => jx_ev_st (jx_fok (by decide +kernel : decode (jx_mb 3) 1 = .ok (.iload_n 1, 1))) rfl rfl rfl
  · exact fun d lv st M Q x => jx_k_pf0 (jx_fok (by decide +kernel : decode (jx_mb 3) 2 = .ok (.putfield 15, 3))) rfl rfl rfl
  · exact fun d lv st M Q => jx_ev_st (jx_fok (by decide +kernel : decode (jx_mb 3) 5 = .ok (.iconst 0, 1))) rfl rfl rfl
  · exact fun d st M Q l0 l1 l2 x => jx_ev_st (jx_fok (by decide +kernel : decode (jx_mb 3) 6 = .ok (.istore_n 2, 1))) rfl rfl rfl
  · exact fun d lv st M Q => jx_ev_st (jx_fok (by decide +kernel : decode (jx_mb 3) 8 = .ok (.bipush 6, 2))) rfl rfl rfl
  · exact fun d lv st M Q x z => jx_k_b2 (jx_fok (by decide +kernel : decode (jx_mb 3) 10 = .ok (.if_icmp .ge 21, 3))) rfl jx_hGe
  · exact fun d st M Q l1 l2 x => jx_ev_st (jx_fok (by decide +kernel : decode (jx_mb 3) 13 = .ok (.aload_n 0, 1))) rfl rfl rfl
  · exact fun d lv st M Q => jx_k_gf (jx_fok (by decide +kernel : decode (jx_mb 3) 14 = .ok (.getfield 9, 3))) rfl rfl rfl
  · exact fun d st M Q l0 l1 x => jx_ev_st (jx_fok (by decide +kernel : decode (jx_mb 3) 17 = .ok (.iload_n 2, 1))) rfl rfl rfl
  · exact fun d st M Q l1 l2 x => jx_ev_st (jx_fok (by decide +kernel : decode (jx_mb 3) 18 = .ok (.aload_n 0, 1))) rfl rfl rfl
  · exact fun d lv st M Q => jx_k_gf (jx_fok (by decide +kernel : decode (jx_mb 3) 19 = .ok (.getfield 19, 3))) rfl rfl rfl
  · exact fun d st M Q l0 l1 x => jx_ev_st (jx_fok (by decide +kernel : decode (jx_mb 3) 22 = .ok (.iload_n 2, 1))) rfl rfl rfl
  · exact fun d lv st M Q x a ha => jx_k_al (jx_fok (by decide +kernel : decode (jx_mb 3) 23 = .ok (.iaload, 1))) ha
  · exact fun d lv st M Q x z a ha => jx_k_as (jx_fok (by decide +kernel : decode (jx_mb 3) 24 = .ok (.iastore, 1))) ha
  · exact fun d st M Q l0 l1 x => jx_ev_st (jx_fok (by decide +kernel : decode (jx_mb 3) 25 = .ok (.iinc 2 1, 3))) rfl rfl rfl
  · exact fun d lv st M Q => jx_k_goto (jx_fok (by decide +kernel : decode (jx_mb 3) 28 = .ok (.goto (-21), 3))) rfl
  · exact fun d lv M Q => jx_k_rv (jx_fok (by decide +kernel : decode (jx_mb 3) 31 = .ok (.return_, 1))) rfl
theorem eX0_keepBest_7 (d : Nat) (st : List Value) (M : jx_M) (Q : jx_Po) (l0 l1 : Option Value) (x : Int32) : jx_Ev d 3 7 [l0, l1, some (.int x)] st M Q ↔ jx_Ev d 3 8 [l0, l1, some (.int x)] (.int x :: st) M Q := jx_ev_st (jx_fok (by decide +kernel : decode (jx_mb 3) 7 = .ok (.iload_n 2, 1))) rfl rfl rfl
theorem kX0_keepBest (d : Nat) (M : jx_M) (q : jx_M → Prop) (a0 a1 : Value) : jx_V d 3 [a0, a1] M q ↔ jx_Ev d 3 0 [some a0, some a1, none] [] M (jx_qV q) := Iff.rfl
set_option maxRecDepth 100000 in
theorem eX1_stands :
  (∀ (d : Nat) (st : List Value) (M : jx_M) (Q : jx_Po) (x : Nat), jx_Ev d 4 0 [some (.ref x)] st M Q ↔ jx_Ev d 4 1 [some (.ref x)] (.ref x :: st) M Q) ∧
  (∀ (d : Nat) (lv : List (Option Value)) (st : List Value) (M : jx_M) (Q : jx_Po) (k : Nat) (hk : jx_cl k = 1), jx_Ev d 4 1 lv (.ref k :: st) M Q ↔ jx_Ev d 4 4 lv (.int (M k 6) :: st) M Q) ∧
  (∀ (d : Nat) (lv : List (Option Value)) (st : List Value) (M : jx_M) (Q : jx_Po) (x : Int32), jx_Ev d 4 4 lv (.int x :: st) M Q ↔ (if x ≤ 0 then jx_Ev d 4 11 lv st M Q else jx_Ev d 4 7 lv st M Q)) ∧
  (∀ (d : Nat) (lv : List (Option Value)) (st : List Value) (M : jx_M) (Q : jx_Po), jx_Ev d 4 7 lv st M Q ↔ jx_Ev d 4 8 lv (.int 1 :: st) M Q) ∧
  (∀ (d : Nat) (lv : List (Option Value)) (st : List Value) (M : jx_M) (Q : jx_Po), jx_Ev d 4 8 lv st M Q ↔ jx_Ev d 4 12 lv st M Q) ∧
  (∀ (d : Nat) (lv : List (Option Value)) (st : List Value) (M : jx_M) (Q : jx_Po), jx_Ev d 4 11 lv st M Q ↔ jx_Ev d 4 12 lv (.int 0 :: st) M Q) ∧
  (∀ (d : Nat) (lv : List (Option Value)) (M : jx_M) (Q : jx_Po) (x : Int32), jx_Ev d 4 12 lv [.int x] M Q ↔ ((x = 0 ∨ x = 1) ∧ Q [.int x] M)) := by
  refine ⟨?_, ?_, ?_, ?_, ?_, ?_, ?_⟩
  · exact fun d st M Q x => jx_ev_st (jx_fok (by decide +kernel : decode (jx_mb 4) 0 = .ok (.aload_n 0, 1))) rfl rfl rfl
  · exact fun d lv st M Q k hk => jx_k_gf (jx_fok (by decide +kernel : decode (jx_mb 4) 1 = .ok (.getfield 31, 3))) rfl hk rfl
  · exact fun d lv st M Q x => jx_k_b1 (jx_fok (by decide +kernel : decode (jx_mb 4) 4 = .ok (.ifCond .le 7, 3))) rfl jx_hLe
  · exact fun d lv st M Q => jx_ev_st (jx_fok (by decide +kernel : decode (jx_mb 4) 7 = .ok (.iconst 1, 1))) rfl rfl rfl
  · exact fun d lv st M Q => jx_k_goto (jx_fok (by decide +kernel : decode (jx_mb 4) 8 = .ok (.goto 4, 3))) rfl
  · exact fun d lv st M Q => jx_ev_st (jx_fok (by decide +kernel : decode (jx_mb 4) 11 = .ok (.iconst 0, 1))) rfl rfl rfl
  · exact fun d lv M Q x => jx_k_rz (jx_fok (by decide +kernel : decode (jx_mb 4) 12 = .ok (.ireturn, 1))) rfl
theorem kX1_stands (d : Nat) (M : jx_M) (q : Int32 → jx_M → Prop) (a0 : Value) : jx_I d 4 [a0] M q ↔ jx_Ev d 4 0 [some a0] [] M (jx_qI q) := Iff.rfl
set_option maxRecDepth 100000 in
theorem eX1_hasPerson :
  (∀ (d : Nat) (st : List Value) (M : jx_M) (Q : jx_Po) (l0 : Option Value) (x : Int32), jx_Ev d 5 0 [l0, some (.int x)] st M Q ↔ jx_Ev d 5 1 [l0, some (.int x)] (.int x :: st) M Q) ∧
  (∀ (d : Nat) (lv : List (Option Value)) (st : List Value) (M : jx_M) (Q : jx_Po) (x : Int32), jx_Ev d 5 1 lv (.int x :: st) M Q ↔ (if x < 0 then jx_Ev d 5 21 lv st M Q else jx_Ev d 5 4 lv st M Q)) ∧
  (∀ (d : Nat) (st : List Value) (M : jx_M) (Q : jx_Po) (l0 : Option Value) (x : Int32), jx_Ev d 5 4 [l0, some (.int x)] st M Q ↔ jx_Ev d 5 5 [l0, some (.int x)] (.int x :: st) M Q) ∧
  (∀ (d : Nat) (st : List Value) (M : jx_M) (Q : jx_Po) (l1 : Option Value) (x : Nat), jx_Ev d 5 5 [some (.ref x), l1] st M Q ↔ jx_Ev d 5 6 [some (.ref x), l1] (.ref x :: st) M Q) ∧
  (∀ (d : Nat) (lv : List (Option Value)) (st : List Value) (M : jx_M) (Q : jx_Po) (k : Nat) (hk : jx_cl k = 1), jx_Ev d 5 6 lv (.ref k :: st) M Q ↔ jx_Ev d 5 9 lv (.int (M k 5) :: st) M Q) ∧
  (∀ (d : Nat) (lv : List (Option Value)) (st : List Value) (M : jx_M) (Q : jx_Po) (x z : Int32), jx_Ev d 5 9 lv (.int z :: .int x :: st) M Q ↔ (if z ≤ x then jx_Ev d 5 21 lv st M Q else jx_Ev d 5 12 lv st M Q)) ∧
  (∀ (d : Nat) (st : List Value) (M : jx_M) (Q : jx_Po) (l0 : Option Value) (x : Int32), jx_Ev d 5 12 [l0, some (.int x)] st M Q ↔ jx_Ev d 5 13 [l0, some (.int x)] (.int x :: st) M Q) ∧
  (∀ (d : Nat) (lv : List (Option Value)) (st : List Value) (M : jx_M) (Q : jx_Po), jx_Ev d 5 13 lv st M Q ↔ jx_Ev d 5 14 lv (.int 5 :: st) M Q) ∧
  (∀ (d : Nat) (lv : List (Option Value)) (st : List Value) (M : jx_M) (Q : jx_Po) (x z : Int32), jx_Ev d 5 14 lv (.int z :: .int x :: st) M Q ↔ (if z ≤ x then jx_Ev d 5 21 lv st M Q else jx_Ev d 5 17 lv st M Q)) ∧
  (∀ (d : Nat) (lv : List (Option Value)) (st : List Value) (M : jx_M) (Q : jx_Po), jx_Ev d 5 17 lv st M Q ↔ jx_Ev d 5 18 lv (.int 1 :: st) M Q) ∧
  (∀ (d : Nat) (lv : List (Option Value)) (st : List Value) (M : jx_M) (Q : jx_Po), jx_Ev d 5 18 lv st M Q ↔ jx_Ev d 5 22 lv st M Q) ∧
  (∀ (d : Nat) (lv : List (Option Value)) (st : List Value) (M : jx_M) (Q : jx_Po), jx_Ev d 5 21 lv st M Q ↔ jx_Ev d 5 22 lv (.int 0 :: st) M Q) ∧
  (∀ (d : Nat) (lv : List (Option Value)) (M : jx_M) (Q : jx_Po) (x : Int32), jx_Ev d 5 22 lv [.int x] M Q ↔ ((x = 0 ∨ x = 1) ∧ Q [.int x] M)) := by
  refine ⟨?_, ?_, ?_, ?_, ?_, ?_, ?_, ?_, ?_, ?_, ?_, ?_, ?_⟩
  · exact fun d st M Q l0 x => jx_ev_st (jx_fok (by decide +kernel : decode (jx_mb 5) 0 = .ok (.iload_n 1, 1))) rfl rfl rfl
  · exact fun d lv st M Q x => jx_k_b1 (jx_fok (by decide +kernel : decode (jx_mb 5) 1 = .ok (.ifCond .lt 20, 3))) rfl jx_hLt
  · exact fun d st M Q l0 x => jx_ev_st (jx_fok (by decide +kernel : decode (jx_mb 5) 4 = .ok (.iload_n 1, 1))) rfl rfl rfl
  · exact fun d st M Q l1 x => jx_ev_st (jx_fok (by decide +kernel : decode (jx_mb 5) 5 = .ok (.aload_n 0, 1))) rfl rfl rfl
  · exact fun d lv st M Q k hk => jx_k_gf (jx_fok (by decide +kernel : decode (jx_mb 5) 6 = .ok (.getfield 27, 3))) rfl hk rfl
  · exact fun d lv st M Q x z => jx_k_b2 (jx_fok (by decide +kernel : decode (jx_mb 5) 9 = .ok (.if_icmp .ge 12, 3))) rfl jx_hGe
  · exact fun d st M Q l0 x => jx_ev_st (jx_fok (by decide +kernel : decode (jx_mb 5) 12 = .ok (.iload_n 1, 1))) rfl rfl rfl
  · exact fun d lv st M Q => jx_ev_st (jx_fok (by decide +kernel : decode (jx_mb 5) 13 = .ok (.iconst 5, 1))) rfl rfl rfl
  · exact fun d lv st M Q x z => jx_k_b2 (jx_fok (by decide +kernel : decode (jx_mb 5) 14 = .ok (.if_icmp .ge 7, 3))) rfl jx_hGe
  · exact fun d lv st M Q => jx_ev_st (jx_fok (by decide +kernel : decode (jx_mb 5) 17 = .ok (.iconst 1, 1))) rfl rfl rfl
  · exact fun d lv st M Q => jx_k_goto (jx_fok (by decide +kernel : decode (jx_mb 5) 18 = .ok (.goto 4, 3))) rfl
  · exact fun d lv st M Q => jx_ev_st (jx_fok (by decide +kernel : decode (jx_mb 5) 21 = .ok (.iconst 0, 1))) rfl rfl rfl
  · exact fun d lv M Q x => jx_k_rz (jx_fok (by decide +kernel : decode (jx_mb 5) 22 = .ok (.ireturn, 1))) rfl
theorem kX1_hasPerson (d : Nat) (M : jx_M) (q : Int32 → jx_M → Prop) (a0 a1 : Value) : jx_I d 5 [a0, a1] M q ↔ jx_Ev d 5 0 [some a0, some a1] [] M (jx_qI q) := Iff.rfl
set_option maxRecDepth 100000 in
theorem eX1_hasClap :
  (∀ (d : Nat) (st : List Value) (M : jx_M) (Q : jx_Po) (l0 : Option Value) (x : Int32), jx_Ev d 6 0 [l0, some (.int x)] st M Q ↔ jx_Ev d 6 1 [l0, some (.int x)] (.int x :: st) M Q) ∧
  (∀ (d : Nat) (lv : List (Option Value)) (st : List Value) (M : jx_M) (Q : jx_Po) (x : Int32), jx_Ev d 6 1 lv (.int x :: st) M Q ↔ (if x < 0 then jx_Ev d 6 22 lv st M Q else jx_Ev d 6 4 lv st M Q)) ∧
  (∀ (d : Nat) (st : List Value) (M : jx_M) (Q : jx_Po) (l0 : Option Value) (x : Int32), jx_Ev d 6 4 [l0, some (.int x)] st M Q ↔ jx_Ev d 6 5 [l0, some (.int x)] (.int x :: st) M Q) ∧
  (∀ (d : Nat) (st : List Value) (M : jx_M) (Q : jx_Po) (l1 : Option Value) (x : Nat), jx_Ev d 6 5 [some (.ref x), l1] st M Q ↔ jx_Ev d 6 6 [some (.ref x), l1] (.ref x :: st) M Q) ∧
  (∀ (d : Nat) (lv : List (Option Value)) (st : List Value) (M : jx_M) (Q : jx_Po) (k : Nat) (hk : jx_cl k = 1), jx_Ev d 6 6 lv (.ref k :: st) M Q ↔ jx_Ev d 6 9 lv (.int (M k 6) :: st) M Q) ∧
  (∀ (d : Nat) (lv : List (Option Value)) (st : List Value) (M : jx_M) (Q : jx_Po) (x z : Int32), jx_Ev d 6 9 lv (.int z :: .int x :: st) M Q ↔ (if z ≤ x then jx_Ev d 6 22 lv st M Q else jx_Ev d 6 12 lv st M Q)) ∧
  (∀ (d : Nat) (st : List Value) (M : jx_M) (Q : jx_Po) (l0 : Option Value) (x : Int32), jx_Ev d 6 12 [l0, some (.int x)] st M Q ↔ jx_Ev d 6 13 [l0, some (.int x)] (.int x :: st) M Q) ∧
  (∀ (d : Nat) (lv : List (Option Value)) (st : List Value) (M : jx_M) (Q : jx_Po), jx_Ev d 6 13 lv st M Q ↔ jx_Ev d 6 15 lv (.int 6 :: st) M Q) ∧
  (∀ (d : Nat) (lv : List (Option Value)) (st : List Value) (M : jx_M) (Q : jx_Po) (x z : Int32), jx_Ev d 6 15 lv (.int z :: .int x :: st) M Q ↔ (if z ≤ x then jx_Ev d 6 22 lv st M Q else jx_Ev d 6 18 lv st M Q)) ∧
  (∀ (d : Nat) (lv : List (Option Value)) (st : List Value) (M : jx_M) (Q : jx_Po), jx_Ev d 6 18 lv st M Q ↔ jx_Ev d 6 19 lv (.int 1 :: st) M Q) ∧
  (∀ (d : Nat) (lv : List (Option Value)) (st : List Value) (M : jx_M) (Q : jx_Po), jx_Ev d 6 19 lv st M Q ↔ jx_Ev d 6 23 lv st M Q) ∧
  (∀ (d : Nat) (lv : List (Option Value)) (st : List Value) (M : jx_M) (Q : jx_Po), jx_Ev d 6 22 lv st M Q ↔ jx_Ev d 6 23 lv (.int 0 :: st) M Q) ∧
  (∀ (d : Nat) (lv : List (Option Value)) (M : jx_M) (Q : jx_Po) (x : Int32), jx_Ev d 6 23 lv [.int x] M Q ↔ ((x = 0 ∨ x = 1) ∧ Q [.int x] M)) := by
  refine ⟨?_, ?_, ?_, ?_, ?_, ?_, ?_, ?_, ?_, ?_, ?_, ?_, ?_⟩
  · exact fun d st M Q l0 x => jx_ev_st (jx_fok (by decide +kernel : decode (jx_mb 6) 0 = .ok (.iload_n 1, 1))) rfl rfl rfl
  · exact fun d lv st M Q x => jx_k_b1 (jx_fok (by decide +kernel : decode (jx_mb 6) 1 = .ok (.ifCond .lt 21, 3))) rfl jx_hLt
  · exact fun d st M Q l0 x => jx_ev_st (jx_fok (by decide +kernel : decode (jx_mb 6) 4 = .ok (.iload_n 1, 1))) rfl rfl rfl
  · exact fun d st M Q l1 x => jx_ev_st (jx_fok (by decide +kernel : decode (jx_mb 6) 5 = .ok (.aload_n 0, 1))) rfl rfl rfl
  · exact fun d lv st M Q k hk => jx_k_gf (jx_fok (by decide +kernel : decode (jx_mb 6) 6 = .ok (.getfield 31, 3))) rfl hk rfl
  · exact fun d lv st M Q x z => jx_k_b2 (jx_fok (by decide +kernel : decode (jx_mb 6) 9 = .ok (.if_icmp .ge 13, 3))) rfl jx_hGe
  · exact fun d st M Q l0 x => jx_ev_st (jx_fok (by decide +kernel : decode (jx_mb 6) 12 = .ok (.iload_n 1, 1))) rfl rfl rfl
  · exact fun d lv st M Q => jx_ev_st (jx_fok (by decide +kernel : decode (jx_mb 6) 13 = .ok (.bipush 6, 2))) rfl rfl rfl
  · exact fun d lv st M Q x z => jx_k_b2 (jx_fok (by decide +kernel : decode (jx_mb 6) 15 = .ok (.if_icmp .ge 7, 3))) rfl jx_hGe
  · exact fun d lv st M Q => jx_ev_st (jx_fok (by decide +kernel : decode (jx_mb 6) 18 = .ok (.iconst 1, 1))) rfl rfl rfl
  · exact fun d lv st M Q => jx_k_goto (jx_fok (by decide +kernel : decode (jx_mb 6) 19 = .ok (.goto 4, 3))) rfl
  · exact fun d lv st M Q => jx_ev_st (jx_fok (by decide +kernel : decode (jx_mb 6) 22 = .ok (.iconst 0, 1))) rfl rfl rfl
  · exact fun d lv M Q x => jx_k_rz (jx_fok (by decide +kernel : decode (jx_mb 6) 23 = .ok (.ireturn, 1))) rfl
theorem kX1_hasClap (d : Nat) (M : jx_M) (q : Int32 → jx_M → Prop) (a0 a1 : Value) : jx_I d 6 [a0, a1] M q ↔ jx_Ev d 6 0 [some a0, some a1] [] M (jx_qI q) := Iff.rfl
set_option maxRecDepth 100000 in
theorem eX1_isFor :
  (∀ (d : Nat) (st : List Value) (M : jx_M) (Q : jx_Po) (l1 l2 : Option Value) (x : Nat), jx_Ev d 7 0 [some (.ref x), l1, l2] st M Q ↔ jx_Ev d 7 1 [some (.ref x), l1, l2] (.ref x :: st) M Q) ∧
  (∀ (d : Nat) (st : List Value) (M : jx_M) (Q : jx_Po) (l0 l2 : Option Value) (x : Int32), jx_Ev d 7 1 [l0, some (.int x), l2] st M Q ↔ jx_Ev d 7 2 [l0, some (.int x), l2] (.int x :: st) M Q) ∧
  (∀ (d : Nat) (lv : List (Option Value)) (M : jx_M) (Q : jx_Po) (a0 : Int32) (a1 : Nat) (hk : jx_cl a1 = 1), jx_Ev (d + 1) 7 2 lv [.int a0, .ref a1] M Q ↔ jx_I d 6 [.ref a1, .int a0] M (fun x M => jx_Ev (d + 1) 7 5 lv (.int x :: []) M Q)) ∧
  (∀ (d : Nat) (lv : List (Option Value)) (st : List Value) (M : jx_M) (Q : jx_Po) (x : Int32), jx_Ev d 7 5 lv (.int x :: st) M Q ↔ (if x = 0 then jx_Ev d 7 22 lv st M Q else jx_Ev d 7 8 lv st M Q)) ∧
  (∀ (d : Nat) (st : List Value) (M : jx_M) (Q : jx_Po) (l1 l2 : Option Value) (x : Nat), jx_Ev d 7 8 [some (.ref x), l1, l2] st M Q ↔ jx_Ev d 7 9 [some (.ref x), l1, l2] (.ref x :: st) M Q) ∧
  (∀ (d : Nat) (lv : List (Option Value)) (st : List Value) (M : jx_M) (Q : jx_Po) (k : Nat) (hk : jx_cl k = 1), jx_Ev d 7 9 lv (.ref k :: st) M Q ↔ jx_Ev d 7 12 lv (.ref (k + 5) :: st) M Q) ∧
  (∀ (d : Nat) (st : List Value) (M : jx_M) (Q : jx_Po) (l0 l2 : Option Value) (x : Int32), jx_Ev d 7 12 [l0, some (.int x), l2] st M Q ↔ jx_Ev d 7 13 [l0, some (.int x), l2] (.int x :: st) M Q) ∧
  (∀ (d : Nat) (lv : List (Option Value)) (st : List Value) (M : jx_M) (Q : jx_Po) (x : Int32) (a : Nat) (ha : jx_cl a = 9), jx_Ev d 7 13 lv (.int x :: .ref a :: st) M Q ↔ (vp_in x (jx_sz a) ∧ jx_Ev d 7 14 lv (.int (M a x.toNatClampNeg) :: st) M Q)) ∧
  (∀ (d : Nat) (st : List Value) (M : jx_M) (Q : jx_Po) (l0 l1 : Option Value) (x : Int32), jx_Ev d 7 14 [l0, l1, some (.int x)] st M Q ↔ jx_Ev d 7 15 [l0, l1, some (.int x)] (.int x :: st) M Q) ∧
  (∀ (d : Nat) (lv : List (Option Value)) (st : List Value) (M : jx_M) (Q : jx_Po) (x z : Int32), jx_Ev d 7 15 lv (.int z :: .int x :: st) M Q ↔ (if x = z then jx_Ev d 7 18 lv st M Q else jx_Ev d 7 22 lv st M Q)) ∧
  (∀ (d : Nat) (lv : List (Option Value)) (st : List Value) (M : jx_M) (Q : jx_Po), jx_Ev d 7 18 lv st M Q ↔ jx_Ev d 7 19 lv (.int 1 :: st) M Q) ∧
  (∀ (d : Nat) (lv : List (Option Value)) (st : List Value) (M : jx_M) (Q : jx_Po), jx_Ev d 7 19 lv st M Q ↔ jx_Ev d 7 23 lv st M Q) ∧
  (∀ (d : Nat) (lv : List (Option Value)) (st : List Value) (M : jx_M) (Q : jx_Po), jx_Ev d 7 22 lv st M Q ↔ jx_Ev d 7 23 lv (.int 0 :: st) M Q) ∧
  (∀ (d : Nat) (lv : List (Option Value)) (M : jx_M) (Q : jx_Po) (x : Int32), jx_Ev d 7 23 lv [.int x] M Q ↔ ((x = 0 ∨ x = 1) ∧ Q [.int x] M)) := by
  refine ⟨?_, ?_, ?_, ?_, ?_, ?_, ?_, ?_, ?_, ?_, ?_, ?_, ?_, ?_⟩
  · exact fun d st M Q l1 l2 x => jx_ev_st (jx_fok (by decide +kernel : decode (jx_mb 7) 0 = .ok (.aload_n 0, 1))) rfl rfl rfl
  · exact fun d st M Q l0 l2 x => jx_ev_st (jx_fok (by decide +kernel : decode (jx_mb 7) 1 = .ok (.iload_n 1, 1))) rfl rfl rfl
  · exact fun d lv M Q a0 a1 hk => jx_ev_ci (jx_fok (by decide +kernel : decode (jx_mb 7) 2 = .ok (.invokevirtual 40, 3))) rfl (jx_ccV (As := [.int a0]) (rest := []) rfl rfl rfl hk rfl rfl) (by decide)
  · exact fun d lv st M Q x => jx_k_b1 (jx_fok (by decide +kernel : decode (jx_mb 7) 5 = .ok (.ifCond .eq 17, 3))) rfl jx_hEq
  · exact fun d st M Q l1 l2 x => jx_ev_st (jx_fok (by decide +kernel : decode (jx_mb 7) 8 = .ok (.aload_n 0, 1))) rfl rfl rfl
  · exact fun d lv st M Q k hk => jx_k_gf (jx_fok (by decide +kernel : decode (jx_mb 7) 9 = .ok (.getfield 24, 3))) rfl hk rfl
  · exact fun d st M Q l0 l2 x => jx_ev_st (jx_fok (by decide +kernel : decode (jx_mb 7) 12 = .ok (.iload_n 1, 1))) rfl rfl rfl
  · exact fun d lv st M Q x a ha => jx_k_al (jx_fok (by decide +kernel : decode (jx_mb 7) 13 = .ok (.iaload, 1))) ha
  · exact fun d st M Q l0 l1 x => jx_ev_st (jx_fok (by decide +kernel : decode (jx_mb 7) 14 = .ok (.iload_n 2, 1))) rfl rfl rfl
  · exact fun d lv st M Q x z => jx_k_b2n (jx_fok (by decide +kernel : decode (jx_mb 7) 15 = .ok (.if_icmp .ne 7, 3))) rfl jx_hNe
  · exact fun d lv st M Q => jx_ev_st (jx_fok (by decide +kernel : decode (jx_mb 7) 18 = .ok (.iconst 1, 1))) rfl rfl rfl
  · exact fun d lv st M Q => jx_k_goto (jx_fok (by decide +kernel : decode (jx_mb 7) 19 = .ok (.goto 4, 3))) rfl
  · exact fun d lv st M Q => jx_ev_st (jx_fok (by decide +kernel : decode (jx_mb 7) 22 = .ok (.iconst 0, 1))) rfl rfl rfl
  · exact fun d lv M Q x => jx_k_rz (jx_fok (by decide +kernel : decode (jx_mb 7) 23 = .ok (.ireturn, 1))) rfl
theorem kX1_isFor (d : Nat) (M : jx_M) (q : Int32 → jx_M → Prop) (a0 a1 a2 : Value) : jx_I d 7 [a0, a1, a2] M q ↔ jx_Ev d 7 0 [some a0, some a1, some a2] [] M (jx_qI q) := Iff.rfl
set_option maxRecDepth 100000 in
theorem eX1_clapsFor :
  (∀ (d : Nat) (lv : List (Option Value)) (st : List Value) (M : jx_M) (Q : jx_Po), jx_Ev d 8 0 lv st M Q ↔ jx_Ev d 8 1 lv (.int 0 :: st) M Q) ∧
  (∀ (d : Nat) (st : List Value) (M : jx_M) (Q : jx_Po) (l0 l1 l2 l3 : Option Value) (x : Int32), jx_Ev d 8 1 [l0, l1, l2, l3] (.int x :: st) M Q ↔ jx_Ev d 8 2 [l0, l1, some (.int x), l3] st M Q) ∧
  (∀ (d : Nat) (lv : List (Option Value)) (st : List Value) (M : jx_M) (Q : jx_Po), jx_Ev d 8 2 lv st M Q ↔ jx_Ev d 8 3 lv (.int 0 :: st) M Q) ∧
  (∀ (d : Nat) (st : List Value) (M : jx_M) (Q : jx_Po) (l0 l1 l2 l3 : Option Value) (x : Int32), jx_Ev d 8 3 [l0, l1, l2, l3] (.int x :: st) M Q ↔ jx_Ev d 8 4 [l0, l1, l2, some (.int x)] st M Q) ∧
  (∀ (d : Nat) (lv : List (Option Value)) (st : List Value) (M : jx_M) (Q : jx_Po), jx_Ev d 8 5 lv st M Q ↔ jx_Ev d 8 7 lv (.int 6 :: st) M Q) ∧
  (∀ (d : Nat) (lv : List (Option Value)) (st : List Value) (M : jx_M) (Q : jx_Po) (x z : Int32), jx_Ev d 8 7 lv (.int z :: .int x :: st) M Q ↔ (if z ≤ x then jx_Ev d 8 31 lv st M Q else jx_Ev d 8 10 lv st M Q)) ∧
  (∀ (d : Nat) (st : List Value) (M : jx_M) (Q : jx_Po) (l1 l2 l3 : Option Value) (x : Nat), jx_Ev d 8 10 [some (.ref x), l1, l2, l3] st M Q ↔ jx_Ev d 8 11 [some (.ref x), l1, l2, l3] (.ref x :: st) M Q) ∧
  (∀ (d : Nat) (st : List Value) (M : jx_M) (Q : jx_Po) (l0 l1 l2 : Option Value) (x : Int32), jx_Ev d 8 11 [l0, l1, l2, some (.int x)] st M Q ↔ jx_Ev d 8 12 [l0, l1, l2, some (.int x)] (.int x :: st) M Q) ∧
  (∀ (d : Nat) (st : List Value) (M : jx_M) (Q : jx_Po) (l0 l2 l3 : Option Value) (x : Int32), jx_Ev d 8 12 [l0, some (.int x), l2, l3] st M Q ↔ jx_Ev d 8 13 [l0, some (.int x), l2, l3] (.int x :: st) M Q) ∧
  (∀ (d : Nat) (lv : List (Option Value)) (M : jx_M) (Q : jx_Po) (a0 : Int32) (a1 : Int32) (a2 : Nat) (hk : jx_cl a2 = 1), jx_Ev (d + 1) 8 13 lv [.int a0, .int a1, .ref a2] M Q ↔ jx_I d 7 [.ref a2, .int a1, .int a0] M (fun x M => jx_Ev (d + 1) 8 16 lv (.int x :: []) M Q)) ∧
  (∀ (d : Nat) (lv : List (Option Value)) (st : List Value) (M : jx_M) (Q : jx_Po) (x : Int32), jx_Ev d 8 16 lv (.int x :: st) M Q ↔ (if x = 0 then jx_Ev d 8 25 lv st M Q else jx_Ev d 8 19 lv st M Q)) ∧
  (∀ (d : Nat) (st : List Value) (M : jx_M) (Q : jx_Po) (l0 l1 l3 : Option Value) (x : Int32), jx_Ev d 8 19 [l0, l1, some (.int x), l3] st M Q ↔ jx_Ev d 8 20 [l0, l1, some (.int x), l3] (.int x :: st) M Q) ∧
  (∀ (d : Nat) (lv : List (Option Value)) (st : List Value) (M : jx_M) (Q : jx_Po), jx_Ev d 8 20 lv st M Q ↔ jx_Ev d 8 21 lv (.int 1 :: st) M Q) ∧
  (∀ (d : Nat) (st : List Value) (M : jx_M) (Q : jx_Po) (l0 l1 l2 : Option Value) (x : Int32), jx_Ev d 8 21 [l0, l1, l2, some (.int x)] st M Q ↔ jx_Ev d 8 22 [l0, l1, l2, some (.int x)] (.int x :: st) M Q) ∧
  (∀ (d : Nat) (lv : List (Option Value)) (st : List Value) (M : jx_M) (Q : jx_Po) (x z : Int32), jx_Ev d 8 22 lv (.int z :: .int x :: st) M Q ↔ jx_Ev d 8 23 lv (.int (x <<< (z &&& 31)) :: st) M Q) ∧
  (∀ (d : Nat) (lv : List (Option Value)) (st : List Value) (M : jx_M) (Q : jx_Po) (x z : Int32), jx_Ev d 8 23 lv (.int z :: .int x :: st) M Q ↔ jx_Ev d 8 24 lv (.int (x ||| z) :: st) M Q) ∧
  (∀ (d : Nat) (st : List Value) (M : jx_M) (Q : jx_Po) (l0 l1 l2 l3 : Option Value) (x : Int32), jx_Ev d 8 24 [l0, l1, l2, l3] (.int x :: st) M Q ↔ jx_Ev d 8 25 [l0, l1, some (.int x), l3] st M Q) ∧
  (∀ (d : Nat) (st : List Value) (M : jx_M) (Q : jx_Po) (l0 l1 l2 : Option Value) (x : Int32), jx_Ev d 8 25 [l0, l1, l2, some (.int x)] st M Q ↔ jx_Ev d 8 28 [l0, l1, l2, some (.int (x + 1))] st M Q) ∧
  (∀ (d : Nat) (lv : List (Option Value)) (st : List Value) (M : jx_M) (Q : jx_Po), jx_Ev d 8 28 lv st M Q ↔ jx_Ev d 8 4 lv st M Q) ∧
  (∀ (d : Nat) (st : List Value) (M : jx_M) (Q : jx_Po) (l0 l1 l3 : Option Value) (x : Int32), jx_Ev d 8 31 [l0, l1, some (.int x), l3] st M Q ↔ jx_Ev d 8 32 [l0, l1, some (.int x), l3] (.int x :: st) M Q) ∧
  (∀ (d : Nat) (lv : List (Option Value)) (M : jx_M) (Q : jx_Po) (x : Int32), jx_Ev d 8 32 lv [.int x] M Q ↔ Q [.int x] M) := by
  refine ⟨?_, ?_, ?_, ?_, ?_, ?_, ?_, ?_, ?_, ?_, ?_, ?_, ?_, ?_, ?_, ?_, ?_, ?_, ?_, ?_, ?_⟩
  · exact fun d lv st M Q => jx_ev_st (jx_fok (by decide +kernel : decode (jx_mb 8) 0 = .ok (.iconst 0, 1))) rfl rfl rfl
  · exact fun d st M Q l0 l1 l2 l3 x => jx_ev_st (jx_fok (by decide +kernel : decode (jx_mb 8) 1 = .ok (.istore_n 2, 1))) rfl rfl rfl
  · exact fun d lv st M Q => jx_ev_st (jx_fok (by decide +kernel : decode (jx_mb 8) 2 = .ok (.iconst 0, 1))) rfl rfl rfl
  · exact fun d st M Q l0 l1 l2 l3 x => jx_ev_st (jx_fok (by decide +kernel : decode (jx_mb 8) 3 = .ok (.istore_n 3, 1))) rfl rfl rfl
  · exact fun d lv st M Q => jx_ev_st (jx_fok (by decide +kernel : decode (jx_mb 8) 5 = .ok (.bipush 6, 2))) rfl rfl rfl
  · exact fun d lv st M Q x z => jx_k_b2 (jx_fok (by decide +kernel : decode (jx_mb 8) 7 = .ok (.if_icmp .ge 24, 3))) rfl jx_hGe
  · exact fun d st M Q l1 l2 l3 x => jx_ev_st (jx_fok (by decide +kernel : decode (jx_mb 8) 10 = .ok (.aload_n 0, 1))) rfl rfl rfl
  · exact fun d st M Q l0 l1 l2 x => jx_ev_st (jx_fok (by decide +kernel : decode (jx_mb 8) 11 = .ok (.iload_n 3, 1))) rfl rfl rfl
  · exact fun d st M Q l0 l2 l3 x => jx_ev_st (jx_fok (by decide +kernel : decode (jx_mb 8) 12 = .ok (.iload_n 1, 1))) rfl rfl rfl
  · exact fun d lv M Q a0 a1 a2 hk => jx_ev_ci (jx_fok (by decide +kernel : decode (jx_mb 8) 13 = .ok (.invokevirtual 44, 3))) rfl (jx_ccV (As := [.int a1, .int a0]) (rest := []) rfl rfl rfl hk rfl rfl) (by decide)
  · exact fun d lv st M Q x => jx_k_b1 (jx_fok (by decide +kernel : decode (jx_mb 8) 16 = .ok (.ifCond .eq 9, 3))) rfl jx_hEq
  · exact fun d st M Q l0 l1 l3 x => jx_ev_st (jx_fok (by decide +kernel : decode (jx_mb 8) 19 = .ok (.iload_n 2, 1))) rfl rfl rfl
  · exact fun d lv st M Q => jx_ev_st (jx_fok (by decide +kernel : decode (jx_mb 8) 20 = .ok (.iconst 1, 1))) rfl rfl rfl
  · exact fun d st M Q l0 l1 l2 x => jx_ev_st (jx_fok (by decide +kernel : decode (jx_mb 8) 21 = .ok (.iload_n 3, 1))) rfl rfl rfl
  · exact fun d lv st M Q x z => jx_ev_st (jx_fok (by decide +kernel : decode (jx_mb 8) 22 = .ok (.ishl, 1))) rfl rfl rfl
  · exact fun d lv st M Q x z => jx_ev_st (jx_fok (by decide +kernel : decode (jx_mb 8) 23 = .ok (.ior, 1))) rfl rfl rfl
  · exact fun d st M Q l0 l1 l2 l3 x => jx_ev_st (jx_fok (by decide +kernel : decode (jx_mb 8) 24 = .ok (.istore_n 2, 1))) rfl rfl rfl
  · exact fun d st M Q l0 l1 l2 x => jx_ev_st (jx_fok (by decide +kernel : decode (jx_mb 8) 25 = .ok (.iinc 3 1, 3))) rfl rfl rfl
  · exact fun d lv st M Q => jx_k_goto (jx_fok (by decide +kernel : decode (jx_mb 8) 28 = .ok (.goto (-24), 3))) rfl
  · exact fun d st M Q l0 l1 l3 x => jx_ev_st (jx_fok (by decide +kernel : decode (jx_mb 8) 31 = .ok (.iload_n 2, 1))) rfl rfl rfl
  · exact fun d lv M Q x => jx_k_ri (jx_fok (by decide +kernel : decode (jx_mb 8) 32 = .ok (.ireturn, 1))) rfl
theorem eX1_clapsFor_4 (d : Nat) (st : List Value) (M : jx_M) (Q : jx_Po) (l0 l1 l2 : Option Value) (x : Int32) : jx_Ev d 8 4 [l0, l1, l2, some (.int x)] st M Q ↔ jx_Ev d 8 5 [l0, l1, l2, some (.int x)] (.int x :: st) M Q := jx_ev_st (jx_fok (by decide +kernel : decode (jx_mb 8) 4 = .ok (.iload_n 3, 1))) rfl rfl rfl
theorem kX1_clapsFor (d : Nat) (M : jx_M) (q : Int32 → jx_M → Prop) (a0 a1 : Value) : jx_I d 8 [a0, a1] M q ↔ jx_Ev d 8 0 [some a0, some a1, none, none] [] M (jx_qI q) := Iff.rfl
set_option maxRecDepth 100000 in
theorem eX1_everybody :
  (∀ (d : Nat) (lv : List (Option Value)) (st : List Value) (M : jx_M) (Q : jx_Po), jx_Ev d 9 0 lv st M Q ↔ jx_Ev d 9 1 lv (.int 1 :: st) M Q) ∧
  (∀ (d : Nat) (st : List Value) (M : jx_M) (Q : jx_Po) (x : Nat), jx_Ev d 9 1 [some (.ref x)] st M Q ↔ jx_Ev d 9 2 [some (.ref x)] (.ref x :: st) M Q) ∧
  (∀ (d : Nat) (lv : List (Option Value)) (st : List Value) (M : jx_M) (Q : jx_Po) (k : Nat) (hk : jx_cl k = 1), jx_Ev d 9 2 lv (.ref k :: st) M Q ↔ jx_Ev d 9 5 lv (.int (M k 5) :: st) M Q) ∧
  (∀ (d : Nat) (lv : List (Option Value)) (st : List Value) (M : jx_M) (Q : jx_Po) (x z : Int32), jx_Ev d 9 5 lv (.int z :: .int x :: st) M Q ↔ jx_Ev d 9 6 lv (.int (x <<< (z &&& 31)) :: st) M Q) ∧
  (∀ (d : Nat) (lv : List (Option Value)) (st : List Value) (M : jx_M) (Q : jx_Po), jx_Ev d 9 6 lv st M Q ↔ jx_Ev d 9 7 lv (.int 1 :: st) M Q) ∧
  (∀ (d : Nat) (lv : List (Option Value)) (st : List Value) (M : jx_M) (Q : jx_Po) (x z : Int32), jx_Ev d 9 7 lv (.int z :: .int x :: st) M Q ↔ jx_Ev d 9 8 lv (.int (x - z) :: st) M Q) ∧
  (∀ (d : Nat) (lv : List (Option Value)) (M : jx_M) (Q : jx_Po) (x : Int32), jx_Ev d 9 8 lv [.int x] M Q ↔ Q [.int x] M) := by
  refine ⟨?_, ?_, ?_, ?_, ?_, ?_, ?_⟩
  · exact fun d lv st M Q => jx_ev_st (jx_fok (by decide +kernel : decode (jx_mb 9) 0 = .ok (.iconst 1, 1))) rfl rfl rfl
  · exact fun d st M Q x => jx_ev_st (jx_fok (by decide +kernel : decode (jx_mb 9) 1 = .ok (.aload_n 0, 1))) rfl rfl rfl
  · exact fun d lv st M Q k hk => jx_k_gf (jx_fok (by decide +kernel : decode (jx_mb 9) 2 = .ok (.getfield 27, 3))) rfl hk rfl
  · exact fun d lv st M Q x z => jx_ev_st (jx_fok (by decide +kernel : decode (jx_mb 9) 5 = .ok (.ishl, 1))) rfl rfl rfl
  · exact fun d lv st M Q => jx_ev_st (jx_fok (by decide +kernel : decode (jx_mb 9) 6 = .ok (.iconst 1, 1))) rfl rfl rfl
  · exact fun d lv st M Q x z => jx_ev_st (jx_fok (by decide +kernel : decode (jx_mb 9) 7 = .ok (.isub, 1))) rfl rfl rfl
  · exact fun d lv M Q x => jx_k_ri (jx_fok (by decide +kernel : decode (jx_mb 9) 8 = .ok (.ireturn, 1))) rfl
theorem kX1_everybody (d : Nat) (M : jx_M) (q : Int32 → jx_M → Prop) (a0 : Value) : jx_I d 9 [a0] M q ↔ jx_Ev d 9 0 [some a0] [] M (jx_qI q) := Iff.rfl
set_option maxRecDepth 100000 in
theorem eX1_loudness :
  (∀ (d : Nat) (st : List Value) (M : jx_M) (Q : jx_Po) (l1 l2 l3 : Option Value) (x : Nat), jx_Ev d 10 0 [some (.ref x), l1, l2, l3] st M Q ↔ jx_Ev d 10 1 [some (.ref x), l1, l2, l3] (.ref x :: st) M Q) ∧
  (∀ (d : Nat) (st : List Value) (M : jx_M) (Q : jx_Po) (l0 l2 l3 : Option Value) (x : Int32), jx_Ev d 10 1 [l0, some (.int x), l2, l3] st M Q ↔ jx_Ev d 10 2 [l0, some (.int x), l2, l3] (.int x :: st) M Q) ∧
  (∀ (d : Nat) (lv : List (Option Value)) (M : jx_M) (Q : jx_Po) (a0 : Int32) (a1 : Nat) (hk : jx_cl a1 = 1), jx_Ev (d + 1) 10 2 lv [.int a0, .ref a1] M Q ↔ jx_I d 6 [.ref a1, .int a0] M (fun x M => jx_Ev (d + 1) 10 5 lv (.int x :: []) M Q)) ∧
  (∀ (d : Nat) (lv : List (Option Value)) (st : List Value) (M : jx_M) (Q : jx_Po) (x : Int32), jx_Ev d 10 5 lv (.int x :: st) M Q ↔ (if x = 0 then jx_Ev d 10 8 lv st M Q else jx_Ev d 10 10 lv st M Q)) ∧
  (∀ (d : Nat) (lv : List (Option Value)) (st : List Value) (M : jx_M) (Q : jx_Po), jx_Ev d 10 8 lv st M Q ↔ jx_Ev d 10 9 lv (.int 0 :: st) M Q) ∧
  (∀ (d : Nat) (lv : List (Option Value)) (M : jx_M) (Q : jx_Po) (x : Int32), jx_Ev d 10 9 lv [.int x] M Q ↔ Q [.int x] M) ∧
  (∀ (d : Nat) (st : List Value) (M : jx_M) (Q : jx_Po) (l1 l2 l3 : Option Value) (x : Nat), jx_Ev d 10 10 [some (.ref x), l1, l2, l3] st M Q ↔ jx_Ev d 10 11 [some (.ref x), l1, l2, l3] (.ref x :: st) M Q) ∧
  (∀ (d : Nat) (lv : List (Option Value)) (st : List Value) (M : jx_M) (Q : jx_Po) (k : Nat) (hk : jx_cl k = 1), jx_Ev d 10 11 lv (.ref k :: st) M Q ↔ jx_Ev d 10 14 lv (.ref (k + 4) :: st) M Q) ∧
  (∀ (d : Nat) (st : List Value) (M : jx_M) (Q : jx_Po) (l0 l2 l3 : Option Value) (x : Int32), jx_Ev d 10 14 [l0, some (.int x), l2, l3] st M Q ↔ jx_Ev d 10 15 [l0, some (.int x), l2, l3] (.int x :: st) M Q) ∧
  (∀ (d : Nat) (lv : List (Option Value)) (st : List Value) (M : jx_M) (Q : jx_Po) (x : Int32) (a : Nat) (ha : jx_cl a = 9), jx_Ev d 10 15 lv (.int x :: .ref a :: st) M Q ↔ (vp_in x (jx_sz a) ∧ jx_Ev d 10 16 lv (.int (M a x.toNatClampNeg) :: st) M Q)) ∧
  (∀ (d : Nat) (st : List Value) (M : jx_M) (Q : jx_Po) (l1 l2 l3 : Option Value) (x : Nat), jx_Ev d 10 16 [some (.ref x), l1, l2, l3] st M Q ↔ jx_Ev d 10 17 [some (.ref x), l1, l2, l3] (.ref x :: st) M Q) ∧
  (∀ (d : Nat) (lv : List (Option Value)) (st : List Value) (M : jx_M) (Q : jx_Po) (k : Nat) (hk : jx_cl k = 1), jx_Ev d 10 17 lv (.ref k :: st) M Q ↔ jx_Ev d 10 20 lv (.int (M k 7) :: st) M Q) ∧
  (∀ (d : Nat) (st : List Value) (M : jx_M) (Q : jx_Po) (l0 l1 l3 : Option Value) (x : Int32), jx_Ev d 10 20 [l0, l1, some (.int x), l3] st M Q ↔ jx_Ev d 10 21 [l0, l1, some (.int x), l3] (.int x :: st) M Q) ∧
  (∀ (d : Nat) (lv : List (Option Value)) (st : List Value) (M : jx_M) (Q : jx_Po) (x z : Int32), jx_Ev d 10 21 lv (.int z :: .int x :: st) M Q ↔ jx_Ev d 10 22 lv (.int (x * z) :: st) M Q) ∧
  (∀ (d : Nat) (lv : List (Option Value)) (st : List Value) (M : jx_M) (Q : jx_Po) (x z : Int32), jx_Ev d 10 22 lv (.int z :: .int x :: st) M Q ↔ jx_Ev d 10 23 lv (.int (x + z) :: st) M Q) ∧
  (∀ (d : Nat) (st : List Value) (M : jx_M) (Q : jx_Po) (l0 l1 l2 l3 : Option Value) (x : Int32), jx_Ev d 10 23 [l0, l1, l2, l3] (.int x :: st) M Q ↔ jx_Ev d 10 24 [l0, l1, l2, some (.int x)] st M Q) ∧
  (∀ (d : Nat) (st : List Value) (M : jx_M) (Q : jx_Po) (l1 l2 l3 : Option Value) (x : Nat), jx_Ev d 10 24 [some (.ref x), l1, l2, l3] st M Q ↔ jx_Ev d 10 25 [some (.ref x), l1, l2, l3] (.ref x :: st) M Q) ∧
  (∀ (d : Nat) (lv : List (Option Value)) (st : List Value) (M : jx_M) (Q : jx_Po) (k : Nat) (hk : jx_cl k = 1), jx_Ev d 10 25 lv (.ref k :: st) M Q ↔ jx_Ev d 10 28 lv (.ref (k + 3) :: st) M Q) ∧
  (∀ (d : Nat) (st : List Value) (M : jx_M) (Q : jx_Po) (l0 l2 l3 : Option Value) (x : Int32), jx_Ev d 10 28 [l0, some (.int x), l2, l3] st M Q ↔ jx_Ev d 10 29 [l0, some (.int x), l2, l3] (.int x :: st) M Q) ∧
  (∀ (d : Nat) (lv : List (Option Value)) (st : List Value) (M : jx_M) (Q : jx_Po) (x : Int32) (a : Nat) (ha : jx_cl a = 9), jx_Ev d 10 29 lv (.int x :: .ref a :: st) M Q ↔ (vp_in x (jx_sz a) ∧ jx_Ev d 10 30 lv (.int (M a x.toNatClampNeg) :: st) M Q)) ∧
  (∀ (d : Nat) (lv : List (Option Value)) (st : List Value) (M : jx_M) (Q : jx_Po), jx_Ev d 10 30 lv st M Q ↔ jx_Ev d 10 31 lv (.int 2 :: st) M Q) ∧
  (∀ (d : Nat) (lv : List (Option Value)) (st : List Value) (M : jx_M) (Q : jx_Po) (x z : Int32), jx_Ev d 10 31 lv (.int z :: .int x :: st) M Q ↔ (if x = z then jx_Ev d 10 34 lv st M Q else jx_Ev d 10 38 lv st M Q)) ∧
  (∀ (d : Nat) (lv : List (Option Value)) (st : List Value) (M : jx_M) (Q : jx_Po), jx_Ev d 10 34 lv st M Q ↔ jx_Ev d 10 35 lv (.int 2 :: st) M Q) ∧
  (∀ (d : Nat) (st : List Value) (M : jx_M) (Q : jx_Po) (l0 l1 l2 : Option Value) (x : Int32), jx_Ev d 10 35 [l0, l1, l2, some (.int x)] st M Q ↔ jx_Ev d 10 36 [l0, l1, l2, some (.int x)] (.int x :: st) M Q) ∧
  (∀ (d : Nat) (lv : List (Option Value)) (st : List Value) (M : jx_M) (Q : jx_Po) (x z : Int32), jx_Ev d 10 36 lv (.int z :: .int x :: st) M Q ↔ jx_Ev d 10 37 lv (.int (x * z) :: st) M Q) ∧
  (∀ (d : Nat) (lv : List (Option Value)) (M : jx_M) (Q : jx_Po) (x : Int32), jx_Ev d 10 37 lv [.int x] M Q ↔ Q [.int x] M) ∧
  (∀ (d : Nat) (st : List Value) (M : jx_M) (Q : jx_Po) (l1 l2 l3 : Option Value) (x : Nat), jx_Ev d 10 38 [some (.ref x), l1, l2, l3] st M Q ↔ jx_Ev d 10 39 [some (.ref x), l1, l2, l3] (.ref x :: st) M Q) ∧
  (∀ (d : Nat) (lv : List (Option Value)) (st : List Value) (M : jx_M) (Q : jx_Po) (k : Nat) (hk : jx_cl k = 1), jx_Ev d 10 39 lv (.ref k :: st) M Q ↔ jx_Ev d 10 42 lv (.ref (k + 3) :: st) M Q) ∧
  (∀ (d : Nat) (st : List Value) (M : jx_M) (Q : jx_Po) (l0 l2 l3 : Option Value) (x : Int32), jx_Ev d 10 42 [l0, some (.int x), l2, l3] st M Q ↔ jx_Ev d 10 43 [l0, some (.int x), l2, l3] (.int x :: st) M Q) ∧
  (∀ (d : Nat) (lv : List (Option Value)) (st : List Value) (M : jx_M) (Q : jx_Po) (x : Int32) (a : Nat) (ha : jx_cl a = 9), jx_Ev d 10 43 lv (.int x :: .ref a :: st) M Q ↔ (vp_in x (jx_sz a) ∧ jx_Ev d 10 44 lv (.int (M a x.toNatClampNeg) :: st) M Q)) ∧
  (∀ (d : Nat) (lv : List (Option Value)) (st : List Value) (M : jx_M) (Q : jx_Po), jx_Ev d 10 44 lv st M Q ↔ jx_Ev d 10 45 lv (.int 1 :: st) M Q) ∧
  (∀ (d : Nat) (lv : List (Option Value)) (st : List Value) (M : jx_M) (Q : jx_Po) (x z : Int32), jx_Ev d 10 45 lv (.int z :: .int x :: st) M Q ↔ (if x = z then jx_Ev d 10 48 lv st M Q else jx_Ev d 10 54 lv st M Q)) ∧
  (∀ (d : Nat) (st : List Value) (M : jx_M) (Q : jx_Po) (l0 l1 l2 : Option Value) (x : Int32), jx_Ev d 10 48 [l0, l1, l2, some (.int x)] st M Q ↔ jx_Ev d 10 49 [l0, l1, l2, some (.int x)] (.int x :: st) M Q) ∧
  (∀ (d : Nat) (lv : List (Option Value)) (st : List Value) (M : jx_M) (Q : jx_Po), jx_Ev d 10 49 lv st M Q ↔ jx_Ev d 10 50 lv (.int 1 :: st) M Q) ∧
  (∀ (d : Nat) (lv : List (Option Value)) (st : List Value) (M : jx_M) (Q : jx_Po) (x z : Int32), jx_Ev d 10 50 lv (.int z :: .int x :: st) M Q ↔ jx_Ev d 10 51 lv (.int (x - z) :: st) M Q) ∧
  (∀ (d : Nat) (lv : List (Option Value)) (st : List Value) (M : jx_M) (Q : jx_Po), jx_Ev d 10 51 lv st M Q ↔ jx_Ev d 10 55 lv st M Q) ∧
  (∀ (d : Nat) (st : List Value) (M : jx_M) (Q : jx_Po) (l0 l1 l2 : Option Value) (x : Int32), jx_Ev d 10 54 [l0, l1, l2, some (.int x)] st M Q ↔ jx_Ev d 10 55 [l0, l1, l2, some (.int x)] (.int x :: st) M Q) ∧
  (∀ (d : Nat) (lv : List (Option Value)) (M : jx_M) (Q : jx_Po) (x : Int32), jx_Ev d 10 55 lv [.int x] M Q ↔ Q [.int x] M) := by
  refine ⟨?_, ?_, ?_, ?_, ?_, ?_, ?_, ?_, ?_, ?_, ?_, ?_, ?_, ?_, ?_, ?_, ?_, ?_, ?_, ?_, ?_, ?_, ?_, ?_, ?_, ?_, ?_, ?_, ?_, ?_, ?_, ?_, ?_, ?_, ?_, ?_, ?_, ?_⟩
  · exact fun d st M Q l1 l2 l3 x => jx_ev_st (jx_fok (by decide +kernel : decode (jx_mb 10) 0 = .ok (.aload_n 0, 1))) rfl rfl rfl
  · exact fun d st M Q l0 l2 l3 x => jx_ev_st (jx_fok (by decide +kernel : decode (jx_mb 10) 1 = .ok (.iload_n 1, 1))) rfl rfl rfl
  · exact fun d lv M Q a0 a1 hk => jx_ev_ci (jx_fok (by decide +kernel : decode (jx_mb 10) 2 = .ok (.invokevirtual 40, 3))) rfl (jx_ccV (As := [.int a0]) (rest := []) rfl rfl rfl hk rfl rfl) (by decide)
  · exact fun d lv st M Q x => jx_k_b1n (jx_fok (by decide +kernel : decode (jx_mb 10) 5 = .ok (.ifCond .ne 5, 3))) rfl jx_hNe
  · exact fun d lv st M Q => jx_ev_st (jx_fok (by decide +kernel : decode (jx_mb 10) 8 = .ok (.iconst 0, 1))) rfl rfl rfl
  · exact fun d lv M Q x => jx_k_ri (jx_fok (by decide +kernel : decode (jx_mb 10) 9 = .ok (.ireturn, 1))) rfl
  · exact fun d st M Q l1 l2 l3 x => jx_ev_st (jx_fok (by decide +kernel : decode (jx_mb 10) 10 = .ok (.aload_n 0, 1))) rfl rfl rfl
  · exact fun d lv st M Q k hk => jx_k_gf (jx_fok (by decide +kernel : decode (jx_mb 10) 11 = .ok (.getfield 21, 3))) rfl hk rfl
  · exact fun d st M Q l0 l2 l3 x => jx_ev_st (jx_fok (by decide +kernel : decode (jx_mb 10) 14 = .ok (.iload_n 1, 1))) rfl rfl rfl
  · exact fun d lv st M Q x a ha => jx_k_al (jx_fok (by decide +kernel : decode (jx_mb 10) 15 = .ok (.iaload, 1))) ha
  · exact fun d st M Q l1 l2 l3 x => jx_ev_st (jx_fok (by decide +kernel : decode (jx_mb 10) 16 = .ok (.aload_n 0, 1))) rfl rfl rfl
  · exact fun d lv st M Q k hk => jx_k_gf (jx_fok (by decide +kernel : decode (jx_mb 10) 17 = .ok (.getfield 34, 3))) rfl hk rfl
  · exact fun d st M Q l0 l1 l3 x => jx_ev_st (jx_fok (by decide +kernel : decode (jx_mb 10) 20 = .ok (.iload_n 2, 1))) rfl rfl rfl
  · exact fun d lv st M Q x z => jx_ev_st (jx_fok (by decide +kernel : decode (jx_mb 10) 21 = .ok (.imul, 1))) rfl rfl rfl
  · exact fun d lv st M Q x z => jx_ev_st (jx_fok (by decide +kernel : decode (jx_mb 10) 22 = .ok (.iadd, 1))) rfl rfl rfl
  · exact fun d st M Q l0 l1 l2 l3 x => jx_ev_st (jx_fok (by decide +kernel : decode (jx_mb 10) 23 = .ok (.istore_n 3, 1))) rfl rfl rfl
  · exact fun d st M Q l1 l2 l3 x => jx_ev_st (jx_fok (by decide +kernel : decode (jx_mb 10) 24 = .ok (.aload_n 0, 1))) rfl rfl rfl
  · exact fun d lv st M Q k hk => jx_k_gf (jx_fok (by decide +kernel : decode (jx_mb 10) 25 = .ok (.getfield 18, 3))) rfl hk rfl
  · exact fun d st M Q l0 l2 l3 x => jx_ev_st (jx_fok (by decide +kernel : decode (jx_mb 10) 28 = .ok (.iload_n 1, 1))) rfl rfl rfl
  · exact fun d lv st M Q x a ha => jx_k_al (jx_fok (by decide +kernel : decode (jx_mb 10) 29 = .ok (.iaload, 1))) ha
  · exact fun d lv st M Q => jx_ev_st (jx_fok (by decide +kernel : decode (jx_mb 10) 30 = .ok (.iconst 2, 1))) rfl rfl rfl
  · exact fun d lv st M Q x z => jx_k_b2n (jx_fok (by decide +kernel : decode (jx_mb 10) 31 = .ok (.if_icmp .ne 7, 3))) rfl jx_hNe
  · exact fun d lv st M Q => jx_ev_st (jx_fok (by decide +kernel : decode (jx_mb 10) 34 = .ok (.iconst 2, 1))) rfl rfl rfl
  · exact fun d st M Q l0 l1 l2 x => jx_ev_st (jx_fok (by decide +kernel : decode (jx_mb 10) 35 = .ok (.iload_n 3, 1))) rfl rfl rfl
  · exact fun d lv st M Q x z => jx_ev_st (jx_fok (by decide +kernel : decode (jx_mb 10) 36 = .ok (.imul, 1))) rfl rfl rfl
  · exact fun d lv M Q x => jx_k_ri (jx_fok (by decide +kernel : decode (jx_mb 10) 37 = .ok (.ireturn, 1))) rfl
  · exact fun d st M Q l1 l2 l3 x => jx_ev_st (jx_fok (by decide +kernel : decode (jx_mb 10) 38 = .ok (.aload_n 0, 1))) rfl rfl rfl
  · exact fun d lv st M Q k hk => jx_k_gf (jx_fok (by decide +kernel : decode (jx_mb 10) 39 = .ok (.getfield 18, 3))) rfl hk rfl
  · exact fun d st M Q l0 l2 l3 x => jx_ev_st (jx_fok (by decide +kernel : decode (jx_mb 10) 42 = .ok (.iload_n 1, 1))) rfl rfl rfl
  · exact fun d lv st M Q x a ha => jx_k_al (jx_fok (by decide +kernel : decode (jx_mb 10) 43 = .ok (.iaload, 1))) ha
  · exact fun d lv st M Q => jx_ev_st (jx_fok (by decide +kernel : decode (jx_mb 10) 44 = .ok (.iconst 1, 1))) rfl rfl rfl
  · exact fun d lv st M Q x z => jx_k_b2n (jx_fok (by decide +kernel : decode (jx_mb 10) 45 = .ok (.if_icmp .ne 9, 3))) rfl jx_hNe
  · exact fun d st M Q l0 l1 l2 x => jx_ev_st (jx_fok (by decide +kernel : decode (jx_mb 10) 48 = .ok (.iload_n 3, 1))) rfl rfl rfl
  · exact fun d lv st M Q => jx_ev_st (jx_fok (by decide +kernel : decode (jx_mb 10) 49 = .ok (.iconst 1, 1))) rfl rfl rfl
  · exact fun d lv st M Q x z => jx_ev_st (jx_fok (by decide +kernel : decode (jx_mb 10) 50 = .ok (.isub, 1))) rfl rfl rfl
  · exact fun d lv st M Q => jx_k_goto (jx_fok (by decide +kernel : decode (jx_mb 10) 51 = .ok (.goto 4, 3))) rfl
  · exact fun d st M Q l0 l1 l2 x => jx_ev_st (jx_fok (by decide +kernel : decode (jx_mb 10) 54 = .ok (.iload_n 3, 1))) rfl rfl rfl
  · exact fun d lv M Q x => jx_k_ri (jx_fok (by decide +kernel : decode (jx_mb 10) 55 = .ok (.ireturn, 1))) rfl
theorem kX1_loudness (d : Nat) (M : jx_M) (q : Int32 → jx_M → Prop) (a0 a1 a2 : Value) : jx_I d 10 [a0, a1, a2] M q ↔ jx_Ev d 10 0 [some a0, some a1, some a2, none] [] M (jx_qI q) := Iff.rfl
set_option maxRecDepth 100000 in
theorem eX1_takerOf :
  (∀ (d : Nat) (st : List Value) (M : jx_M) (Q : jx_Po) (l1 l2 l3 l4 l5 l6 : Option Value) (x : Nat), jx_Ev d 11 0 [some (.ref x), l1, l2, l3, l4, l5, l6] st M Q ↔ jx_Ev d 11 1 [some (.ref x), l1, l2, l3, l4, l5, l6] (.ref x :: st) M Q) ∧
  (∀ (d : Nat) (st : List Value) (M : jx_M) (Q : jx_Po) (l0 l2 l3 l4 l5 l6 : Option Value) (x : Int32), jx_Ev d 11 1 [l0, some (.int x), l2, l3, l4, l5, l6] st M Q ↔ jx_Ev d 11 2 [l0, some (.int x), l2, l3, l4, l5, l6] (.int x :: st) M Q) ∧
  (∀ (d : Nat) (lv : List (Option Value)) (M : jx_M) (Q : jx_Po) (a0 : Int32) (a1 : Nat) (hk : jx_cl a1 = 1), jx_Ev (d + 1) 11 2 lv [.int a0, .ref a1] M Q ↔ jx_I d 6 [.ref a1, .int a0] M (fun x M => jx_Ev (d + 1) 11 5 lv (.int x :: []) M Q)) ∧
  (∀ (d : Nat) (lv : List (Option Value)) (st : List Value) (M : jx_M) (Q : jx_Po) (x : Int32), jx_Ev d 11 5 lv (.int x :: st) M Q ↔ (if x = 0 then jx_Ev d 11 8 lv st M Q else jx_Ev d 11 11 lv st M Q)) ∧
  (∀ (d : Nat) (lv : List (Option Value)) (st : List Value) (M : jx_M) (Q : jx_Po), jx_Ev d 11 8 lv st M Q ↔ jx_Ev d 11 10 lv (.int (-9) :: st) M Q) ∧
  (∀ (d : Nat) (lv : List (Option Value)) (M : jx_M) (Q : jx_Po) (x : Int32), jx_Ev d 11 10 lv [.int x] M Q ↔ Q [.int x] M) ∧
  (∀ (d : Nat) (st : List Value) (M : jx_M) (Q : jx_Po) (l1 l2 l3 l4 l5 l6 : Option Value) (x : Nat), jx_Ev d 11 11 [some (.ref x), l1, l2, l3, l4, l5, l6] st M Q ↔ jx_Ev d 11 12 [some (.ref x), l1, l2, l3, l4, l5, l6] (.ref x :: st) M Q) ∧
  (∀ (d : Nat) (st : List Value) (M : jx_M) (Q : jx_Po) (l0 l2 l3 l4 l5 l6 : Option Value) (x : Int32), jx_Ev d 11 12 [l0, some (.int x), l2, l3, l4, l5, l6] st M Q ↔ jx_Ev d 11 13 [l0, some (.int x), l2, l3, l4, l5, l6] (.int x :: st) M Q) ∧
  (∀ (d : Nat) (st : List Value) (M : jx_M) (Q : jx_Po) (l0 l1 l3 l4 l5 l6 : Option Value) (x : Int32), jx_Ev d 11 13 [l0, l1, some (.int x), l3, l4, l5, l6] st M Q ↔ jx_Ev d 11 14 [l0, l1, some (.int x), l3, l4, l5, l6] (.int x :: st) M Q) ∧
  (∀ (d : Nat) (lv : List (Option Value)) (M : jx_M) (Q : jx_Po) (a0 : Int32) (a1 : Int32) (a2 : Nat) (hk : jx_cl a2 = 1), jx_Ev (d + 1) 11 14 lv [.int a0, .int a1, .ref a2] M Q ↔ jx_I d 10 [.ref a2, .int a1, .int a0] M (fun x M => jx_Ev (d + 1) 11 17 lv (.int x :: []) M Q)) ∧
  (∀ (d : Nat) (st : List Value) (M : jx_M) (Q : jx_Po) (l0 l1 l2 l3 l4 l5 l6 : Option Value) (x : Int32), jx_Ev d 11 17 [l0, l1, l2, l3, l4, l5, l6] (.int x :: st) M Q ↔ jx_Ev d 11 19 [l0, l1, l2, l3, some (.int x), l5, l6] st M Q) ∧
  (∀ (d : Nat) (st : List Value) (M : jx_M) (Q : jx_Po) (l1 l2 l3 l4 l5 l6 : Option Value) (x : Nat), jx_Ev d 11 19 [some (.ref x), l1, l2, l3, l4, l5, l6] st M Q ↔ jx_Ev d 11 20 [some (.ref x), l1, l2, l3, l4, l5, l6] (.ref x :: st) M Q) ∧
  (∀ (d : Nat) (lv : List (Option Value)) (st : List Value) (M : jx_M) (Q : jx_Po) (k : Nat) (hk : jx_cl k = 1), jx_Ev d 11 20 lv (.ref k :: st) M Q ↔ jx_Ev d 11 23 lv (.ref (k + 5) :: st) M Q) ∧
  (∀ (d : Nat) (st : List Value) (M : jx_M) (Q : jx_Po) (l0 l2 l3 l4 l5 l6 : Option Value) (x : Int32), jx_Ev d 11 23 [l0, some (.int x), l2, l3, l4, l5, l6] st M Q ↔ jx_Ev d 11 24 [l0, some (.int x), l2, l3, l4, l5, l6] (.int x :: st) M Q) ∧
  (∀ (d : Nat) (lv : List (Option Value)) (st : List Value) (M : jx_M) (Q : jx_Po) (x : Int32) (a : Nat) (ha : jx_cl a = 9), jx_Ev d 11 24 lv (.int x :: .ref a :: st) M Q ↔ (vp_in x (jx_sz a) ∧ jx_Ev d 11 25 lv (.int (M a x.toNatClampNeg) :: st) M Q)) ∧
  (∀ (d : Nat) (st : List Value) (M : jx_M) (Q : jx_Po) (l0 l1 l2 l3 l4 l5 l6 : Option Value) (x : Int32), jx_Ev d 11 25 [l0, l1, l2, l3, l4, l5, l6] (.int x :: st) M Q ↔ jx_Ev d 11 27 [l0, l1, l2, l3, l4, some (.int x), l6] st M Q) ∧
  (∀ (d : Nat) (lv : List (Option Value)) (st : List Value) (M : jx_M) (Q : jx_Po), jx_Ev d 11 27 lv st M Q ↔ jx_Ev d 11 28 lv (.int 0 :: st) M Q) ∧
  (∀ (d : Nat) (st : List Value) (M : jx_M) (Q : jx_Po) (l0 l1 l2 l3 l4 l5 l6 : Option Value) (x : Int32), jx_Ev d 11 28 [l0, l1, l2, l3, l4, l5, l6] (.int x :: st) M Q ↔ jx_Ev d 11 30 [l0, l1, l2, l3, l4, l5, some (.int x)] st M Q) ∧
  (∀ (d : Nat) (lv : List (Option Value)) (st : List Value) (M : jx_M) (Q : jx_Po), jx_Ev d 11 32 lv st M Q ↔ jx_Ev d 11 33 lv (.int 5 :: st) M Q) ∧
  (∀ (d : Nat) (lv : List (Option Value)) (st : List Value) (M : jx_M) (Q : jx_Po) (x z : Int32), jx_Ev d 11 33 lv (.int z :: .int x :: st) M Q ↔ (if z ≤ x then jx_Ev d 11 84 lv st M Q else jx_Ev d 11 36 lv st M Q)) ∧
  (∀ (d : Nat) (st : List Value) (M : jx_M) (Q : jx_Po) (l1 l2 l3 l4 l5 l6 : Option Value) (x : Nat), jx_Ev d 11 36 [some (.ref x), l1, l2, l3, l4, l5, l6] st M Q ↔ jx_Ev d 11 37 [some (.ref x), l1, l2, l3, l4, l5, l6] (.ref x :: st) M Q) ∧
  (∀ (d : Nat) (st : List Value) (M : jx_M) (Q : jx_Po) (l0 l1 l2 l3 l4 l6 : Option Value) (x : Int32), jx_Ev d 11 37 [l0, l1, l2, l3, l4, some (.int x), l6] st M Q ↔ jx_Ev d 11 39 [l0, l1, l2, l3, l4, some (.int x), l6] (.int x :: st) M Q) ∧
  (∀ (d : Nat) (lv : List (Option Value)) (M : jx_M) (Q : jx_Po) (a0 : Int32) (a1 : Nat) (hk : jx_cl a1 = 1), jx_Ev (d + 1) 11 39 lv [.int a0, .ref a1] M Q ↔ jx_I d 5 [.ref a1, .int a0] M (fun x M => jx_Ev (d + 1) 11 42 lv (.int x :: []) M Q)) ∧
  (∀ (d : Nat) (lv : List (Option Value)) (st : List Value) (M : jx_M) (Q : jx_Po) (x : Int32), jx_Ev d 11 42 lv (.int x :: st) M Q ↔ (if x = 0 then jx_Ev d 11 84 lv st M Q else jx_Ev d 11 45 lv st M Q)) ∧
  (∀ (d : Nat) (st : List Value) (M : jx_M) (Q : jx_Po) (l0 l1 l2 l4 l5 l6 : Option Value) (x : Int32), jx_Ev d 11 45 [l0, l1, l2, some (.int x), l4, l5, l6] st M Q ↔ jx_Ev d 11 46 [l0, l1, l2, some (.int x), l4, l5, l6] (.int x :: st) M Q) ∧
  (∀ (d : Nat) (st : List Value) (M : jx_M) (Q : jx_Po) (l0 l1 l2 l3 l4 l6 : Option Value) (x : Int32), jx_Ev d 11 46 [l0, l1, l2, l3, l4, some (.int x), l6] st M Q ↔ jx_Ev d 11 48 [l0, l1, l2, l3, l4, some (.int x), l6] (.int x :: st) M Q) ∧
  (∀ (d : Nat) (lv : List (Option Value)) (st : List Value) (M : jx_M) (Q : jx_Po) (x z : Int32), jx_Ev d 11 48 lv (.int z :: .int x :: st) M Q ↔ jx_Ev d 11 49 lv (.int (x >>> (z &&& 31)) :: st) M Q) ∧
  (∀ (d : Nat) (lv : List (Option Value)) (st : List Value) (M : jx_M) (Q : jx_Po), jx_Ev d 11 49 lv st M Q ↔ jx_Ev d 11 50 lv (.int 1 :: st) M Q) ∧
  (∀ (d : Nat) (lv : List (Option Value)) (st : List Value) (M : jx_M) (Q : jx_Po) (x z : Int32), jx_Ev d 11 50 lv (.int z :: .int x :: st) M Q ↔ jx_Ev d 11 51 lv (.int (x &&& z) :: st) M Q) ∧
  (∀ (d : Nat) (lv : List (Option Value)) (st : List Value) (M : jx_M) (Q : jx_Po) (x : Int32), jx_Ev d 11 51 lv (.int x :: st) M Q ↔ (if x = 0 then jx_Ev d 11 69 lv st M Q else jx_Ev d 11 54 lv st M Q)) ∧
  (∀ (d : Nat) (st : List Value) (M : jx_M) (Q : jx_Po) (l0 l1 l2 l3 l5 l6 : Option Value) (x : Int32), jx_Ev d 11 54 [l0, l1, l2, l3, some (.int x), l5, l6] st M Q ↔ jx_Ev d 11 56 [l0, l1, l2, l3, some (.int x), l5, l6] (.int x :: st) M Q) ∧
  (∀ (d : Nat) (st : List Value) (M : jx_M) (Q : jx_Po) (l1 l2 l3 l4 l5 l6 : Option Value) (x : Nat), jx_Ev d 11 56 [some (.ref x), l1, l2, l3, l4, l5, l6] st M Q ↔ jx_Ev d 11 57 [some (.ref x), l1, l2, l3, l4, l5, l6] (.ref x :: st) M Q) ∧
  (∀ (d : Nat) (lv : List (Option Value)) (st : List Value) (M : jx_M) (Q : jx_Po) (k : Nat) (hk : jx_cl k = 1), jx_Ev d 11 57 lv (.ref k :: st) M Q ↔ jx_Ev d 11 60 lv (.ref (k + 1) :: st) M Q) ∧
  (∀ (d : Nat) (st : List Value) (M : jx_M) (Q : jx_Po) (l0 l1 l2 l3 l4 l6 : Option Value) (x : Int32), jx_Ev d 11 60 [l0, l1, l2, l3, l4, some (.int x), l6] st M Q ↔ jx_Ev d 11 62 [l0, l1, l2, l3, l4, some (.int x), l6] (.int x :: st) M Q) ∧
  (∀ (d : Nat) (lv : List (Option Value)) (st : List Value) (M : jx_M) (Q : jx_Po) (x : Int32) (a : Nat) (ha : jx_cl a = 9), jx_Ev d 11 62 lv (.int x :: .ref a :: st) M Q ↔ (vp_in x (jx_sz a) ∧ jx_Ev d 11 63 lv (.int (M a x.toNatClampNeg) :: st) M Q)) ∧
  (∀ (d : Nat) (lv : List (Option Value)) (st : List Value) (M : jx_M) (Q : jx_Po) (x z : Int32), jx_Ev d 11 63 lv (.int z :: .int x :: st) M Q ↔ (if z < x then jx_Ev d 11 69 lv st M Q else jx_Ev d 11 66 lv st M Q)) ∧
  (∀ (d : Nat) (st : List Value) (M : jx_M) (Q : jx_Po) (l0 l1 l2 l3 l4 l6 : Option Value) (x : Int32), jx_Ev d 11 66 [l0, l1, l2, l3, l4, some (.int x), l6] st M Q ↔ jx_Ev d 11 68 [l0, l1, l2, l3, l4, some (.int x), l6] (.int x :: st) M Q) ∧
  (∀ (d : Nat) (lv : List (Option Value)) (M : jx_M) (Q : jx_Po) (x : Int32), jx_Ev d 11 68 lv [.int x] M Q ↔ Q [.int x] M) ∧
  (∀ (d : Nat) (st : List Value) (M : jx_M) (Q : jx_Po) (l1 l2 l3 l4 l5 l6 : Option Value) (x : Nat), jx_Ev d 11 69 [some (.ref x), l1, l2, l3, l4, l5, l6] st M Q ↔ jx_Ev d 11 70 [some (.ref x), l1, l2, l3, l4, l5, l6] (.ref x :: st) M Q) ∧
  (∀ (d : Nat) (lv : List (Option Value)) (st : List Value) (M : jx_M) (Q : jx_Po) (k : Nat) (hk : jx_cl k = 1), jx_Ev d 11 70 lv (.ref k :: st) M Q ↔ jx_Ev d 11 73 lv (.ref (k + 2) :: st) M Q) ∧
  (∀ (d : Nat) (st : List Value) (M : jx_M) (Q : jx_Po) (l0 l1 l2 l3 l4 l6 : Option Value) (x : Int32), jx_Ev d 11 73 [l0, l1, l2, l3, l4, some (.int x), l6] st M Q ↔ jx_Ev d 11 75 [l0, l1, l2, l3, l4, some (.int x), l6] (.int x :: st) M Q) ∧
  (∀ (d : Nat) (lv : List (Option Value)) (st : List Value) (M : jx_M) (Q : jx_Po) (x : Int32) (a : Nat) (ha : jx_cl a = 9), jx_Ev d 11 75 lv (.int x :: .ref a :: st) M Q ↔ (vp_in x (jx_sz a) ∧ jx_Ev d 11 76 lv (.int (M a x.toNatClampNeg) :: st) M Q)) ∧
  (∀ (d : Nat) (st : List Value) (M : jx_M) (Q : jx_Po) (l0 l1 l2 l3 l4 l5 l6 : Option Value) (x : Int32), jx_Ev d 11 76 [l0, l1, l2, l3, l4, l5, l6] (.int x :: st) M Q ↔ jx_Ev d 11 78 [l0, l1, l2, l3, l4, some (.int x), l6] st M Q) ∧
  (∀ (d : Nat) (st : List Value) (M : jx_M) (Q : jx_Po) (l0 l1 l2 l3 l4 l5 : Option Value) (x : Int32), jx_Ev d 11 78 [l0, l1, l2, l3, l4, l5, some (.int x)] st M Q ↔ jx_Ev d 11 81 [l0, l1, l2, l3, l4, l5, some (.int (x + 1))] st M Q) ∧
  (∀ (d : Nat) (lv : List (Option Value)) (st : List Value) (M : jx_M) (Q : jx_Po), jx_Ev d 11 81 lv st M Q ↔ jx_Ev d 11 30 lv st M Q) ∧
  (∀ (d : Nat) (lv : List (Option Value)) (st : List Value) (M : jx_M) (Q : jx_Po), jx_Ev d 11 84 lv st M Q ↔ jx_Ev d 11 86 lv (.int (-9) :: st) M Q) ∧
  (∀ (d : Nat) (lv : List (Option Value)) (M : jx_M) (Q : jx_Po) (x : Int32), jx_Ev d 11 86 lv [.int x] M Q ↔ Q [.int x] M) := by
  refine ⟨?_, ?_, ?_, ?_, ?_, ?_, ?_, ?_, ?_, ?_, ?_, ?_, ?_, ?_, ?_, ?_, ?_, ?_, ?_, ?_, ?_, ?_, ?_, ?_, ?_, ?_, ?_, ?_, ?_, ?_, ?_, ?_, ?_, ?_, ?_, ?_, ?_, ?_, ?_, ?_, ?_, ?_, ?_, ?_, ?_, ?_, ?_⟩
  · exact fun d st M Q l1 l2 l3 l4 l5 l6 x => jx_ev_st (jx_fok (by decide +kernel : decode (jx_mb 11) 0 = .ok (.aload_n 0, 1))) rfl rfl rfl
  · exact fun d st M Q l0 l2 l3 l4 l5 l6 x => jx_ev_st (jx_fok (by decide +kernel : decode (jx_mb 11) 1 = .ok (.iload_n 1, 1))) rfl rfl rfl
  · exact fun d lv M Q a0 a1 hk => jx_ev_ci (jx_fok (by decide +kernel : decode (jx_mb 11) 2 = .ok (.invokevirtual 40, 3))) rfl (jx_ccV (As := [.int a0]) (rest := []) rfl rfl rfl hk rfl rfl) (by decide)
  · exact fun d lv st M Q x => jx_k_b1n (jx_fok (by decide +kernel : decode (jx_mb 11) 5 = .ok (.ifCond .ne 6, 3))) rfl jx_hNe
  · exact fun d lv st M Q => jx_ev_st (jx_fok (by decide +kernel : decode (jx_mb 11) 8 = .ok (.bipush (-9), 2))) rfl rfl rfl
  · exact fun d lv M Q x => jx_k_ri (jx_fok (by decide +kernel : decode (jx_mb 11) 10 = .ok (.ireturn, 1))) rfl
  · exact fun d st M Q l1 l2 l3 l4 l5 l6 x => jx_ev_st (jx_fok (by decide +kernel : decode (jx_mb 11) 11 = .ok (.aload_n 0, 1))) rfl rfl rfl
  · exact fun d st M Q l0 l2 l3 l4 l5 l6 x => jx_ev_st (jx_fok (by decide +kernel : decode (jx_mb 11) 12 = .ok (.iload_n 1, 1))) rfl rfl rfl
  · exact fun d st M Q l0 l1 l3 l4 l5 l6 x => jx_ev_st (jx_fok (by decide +kernel : decode (jx_mb 11) 13 = .ok (.iload_n 2, 1))) rfl rfl rfl
  · exact fun d lv M Q a0 a1 a2 hk => jx_ev_ci (jx_fok (by decide +kernel : decode (jx_mb 11) 14 = .ok (.invokevirtual 48, 3))) rfl (jx_ccV (As := [.int a1, .int a0]) (rest := []) rfl rfl rfl hk rfl rfl) (by decide)
  · exact fun d st M Q l0 l1 l2 l3 l4 l5 l6 x => jx_ev_st (jx_fok (by decide +kernel : decode (jx_mb 11) 17 = .ok (.istore 4, 2))) rfl rfl rfl
  · exact fun d st M Q l1 l2 l3 l4 l5 l6 x => jx_ev_st (jx_fok (by decide +kernel : decode (jx_mb 11) 19 = .ok (.aload_n 0, 1))) rfl rfl rfl
  · exact fun d lv st M Q k hk => jx_k_gf (jx_fok (by decide +kernel : decode (jx_mb 11) 20 = .ok (.getfield 24, 3))) rfl hk rfl
  · exact fun d st M Q l0 l2 l3 l4 l5 l6 x => jx_ev_st (jx_fok (by decide +kernel : decode (jx_mb 11) 23 = .ok (.iload_n 1, 1))) rfl rfl rfl
  · exact fun d lv st M Q x a ha => jx_k_al (jx_fok (by decide +kernel : decode (jx_mb 11) 24 = .ok (.iaload, 1))) ha
  · exact fun d st M Q l0 l1 l2 l3 l4 l5 l6 x => jx_ev_st (jx_fok (by decide +kernel : decode (jx_mb 11) 25 = .ok (.istore 5, 2))) rfl rfl rfl
  · exact fun d lv st M Q => jx_ev_st (jx_fok (by decide +kernel : decode (jx_mb 11) 27 = .ok (.iconst 0, 1))) rfl rfl rfl
  · exact fun d st M Q l0 l1 l2 l3 l4 l5 l6 x => jx_ev_st (jx_fok (by decide +kernel : decode (jx_mb 11) 28 = .ok (.istore 6, 2))) rfl rfl rfl
  · exact fun d lv st M Q => jx_ev_st (jx_fok (by decide +kernel : decode (jx_mb 11) 32 = .ok (.iconst 5, 1))) rfl rfl rfl
  · exact fun d lv st M Q x z => jx_k_b2 (jx_fok (by decide +kernel : decode (jx_mb 11) 33 = .ok (.if_icmp .ge 51, 3))) rfl jx_hGe
  · exact fun d st M Q l1 l2 l3 l4 l5 l6 x => jx_ev_st (jx_fok (by decide +kernel : decode (jx_mb 11) 36 = .ok (.aload_n 0, 1))) rfl rfl rfl
  · exact fun d st M Q l0 l1 l2 l3 l4 l6 x => jx_ev_st (jx_fok (by decide +kernel : decode (jx_mb 11) 37 = .ok (.iload 5, 2))) rfl rfl rfl
  · exact fun d lv M Q a0 a1 hk => jx_ev_ci (jx_fok (by decide +kernel : decode (jx_mb 11) 39 = .ok (.invokevirtual 52, 3))) rfl (jx_ccV (As := [.int a0]) (rest := []) rfl rfl rfl hk rfl rfl) (by decide)
  · exact fun d lv st M Q x => jx_k_b1 (jx_fok (by decide +kernel : decode (jx_mb 11) 42 = .ok (.ifCond .eq 42, 3))) rfl jx_hEq
  · exact fun d st M Q l0 l1 l2 l4 l5 l6 x => jx_ev_st (jx_fok (by decide +kernel : decode (jx_mb 11) 45 = .ok (.iload_n 3, 1))) rfl rfl rfl
  · exact fun d st M Q l0 l1 l2 l3 l4 l6 x => jx_ev_st (jx_fok (by decide +kernel : decode (jx_mb 11) 46 = .ok (.iload 5, 2))) rfl rfl rfl
  · exact fun d lv st M Q x z => jx_ev_st (jx_fok (by decide +kernel : decode (jx_mb 11) 48 = .ok (.ishr, 1))) rfl rfl rfl
  · exact fun d lv st M Q => jx_ev_st (jx_fok (by decide +kernel : decode (jx_mb 11) 49 = .ok (.iconst 1, 1))) rfl rfl rfl
  · exact fun d lv st M Q x z => jx_ev_st (jx_fok (by decide +kernel : decode (jx_mb 11) 50 = .ok (.iand, 1))) rfl rfl rfl
  · exact fun d lv st M Q x => jx_k_b1 (jx_fok (by decide +kernel : decode (jx_mb 11) 51 = .ok (.ifCond .eq 18, 3))) rfl jx_hEq
  · exact fun d st M Q l0 l1 l2 l3 l5 l6 x => jx_ev_st (jx_fok (by decide +kernel : decode (jx_mb 11) 54 = .ok (.iload 4, 2))) rfl rfl rfl
  · exact fun d st M Q l1 l2 l3 l4 l5 l6 x => jx_ev_st (jx_fok (by decide +kernel : decode (jx_mb 11) 56 = .ok (.aload_n 0, 1))) rfl rfl rfl
  · exact fun d lv st M Q k hk => jx_k_gf (jx_fok (by decide +kernel : decode (jx_mb 11) 57 = .ok (.getfield 9, 3))) rfl hk rfl
  · exact fun d st M Q l0 l1 l2 l3 l4 l6 x => jx_ev_st (jx_fok (by decide +kernel : decode (jx_mb 11) 60 = .ok (.iload 5, 2))) rfl rfl rfl
  · exact fun d lv st M Q x a ha => jx_k_al (jx_fok (by decide +kernel : decode (jx_mb 11) 62 = .ok (.iaload, 1))) ha
  · exact fun d lv st M Q x z => jx_k_b2 (jx_fok (by decide +kernel : decode (jx_mb 11) 63 = .ok (.if_icmp .gt 6, 3))) rfl jx_hGt
  · exact fun d st M Q l0 l1 l2 l3 l4 l6 x => jx_ev_st (jx_fok (by decide +kernel : decode (jx_mb 11) 66 = .ok (.iload 5, 2))) rfl rfl rfl
  · exact fun d lv M Q x => jx_k_ri (jx_fok (by decide +kernel : decode (jx_mb 11) 68 = .ok (.ireturn, 1))) rfl
  · exact fun d st M Q l1 l2 l3 l4 l5 l6 x => jx_ev_st (jx_fok (by decide +kernel : decode (jx_mb 11) 69 = .ok (.aload_n 0, 1))) rfl rfl rfl
  · exact fun d lv st M Q k hk => jx_k_gf (jx_fok (by decide +kernel : decode (jx_mb 11) 70 = .ok (.getfield 15, 3))) rfl hk rfl
  · exact fun d st M Q l0 l1 l2 l3 l4 l6 x => jx_ev_st (jx_fok (by decide +kernel : decode (jx_mb 11) 73 = .ok (.iload 5, 2))) rfl rfl rfl
  · exact fun d lv st M Q x a ha => jx_k_al (jx_fok (by decide +kernel : decode (jx_mb 11) 75 = .ok (.iaload, 1))) ha
  · exact fun d st M Q l0 l1 l2 l3 l4 l5 l6 x => jx_ev_st (jx_fok (by decide +kernel : decode (jx_mb 11) 76 = .ok (.istore 5, 2))) rfl rfl rfl
  · exact fun d st M Q l0 l1 l2 l3 l4 l5 x => jx_ev_st (jx_fok (by decide +kernel : decode (jx_mb 11) 78 = .ok (.iinc 6 1, 3))) rfl rfl rfl
  · exact fun d lv st M Q => jx_k_goto (jx_fok (by decide +kernel : decode (jx_mb 11) 81 = .ok (.goto (-51), 3))) rfl
  · exact fun d lv st M Q => jx_ev_st (jx_fok (by decide +kernel : decode (jx_mb 11) 84 = .ok (.bipush (-9), 2))) rfl rfl rfl
  · exact fun d lv M Q x => jx_k_ri (jx_fok (by decide +kernel : decode (jx_mb 11) 86 = .ok (.ireturn, 1))) rfl
theorem eX1_takerOf_30 (d : Nat) (st : List Value) (M : jx_M) (Q : jx_Po) (l0 l1 l2 l3 l4 l5 : Option Value) (x : Int32) : jx_Ev d 11 30 [l0, l1, l2, l3, l4, l5, some (.int x)] st M Q ↔ jx_Ev d 11 32 [l0, l1, l2, l3, l4, l5, some (.int x)] (.int x :: st) M Q := jx_ev_st (jx_fok (by decide +kernel : decode (jx_mb 11) 30 = .ok (.iload 6, 2))) rfl rfl rfl
theorem kX1_takerOf (d : Nat) (M : jx_M) (q : Int32 → jx_M → Prop) (a0 a1 a2 a3 : Value) : jx_I d 11 [a0, a1, a2, a3] M q ↔ jx_Ev d 11 0 [some a0, some a1, some a2, some a3, none, none, none] [] M (jx_qI q) := Iff.rfl
set_option maxRecDepth 100000 in
theorem eX2_takeMonths :
  (∀ (d : Nat) (lv : List (Option Value)) (st : List Value) (M : jx_M) (Q : jx_Po), jx_Ev d 12 0 lv st M Q ↔ jx_Ev d 12 1 lv (.int 0 :: st) M Q) ∧
  (∀ (d : Nat) (st : List Value) (M : jx_M) (Q : jx_Po) (l0 l1 l2 l3 l4 : Option Value) (x : Int32), jx_Ev d 12 1 [l0, l1, l2, l3, l4] (.int x :: st) M Q ↔ jx_Ev d 12 3 [l0, l1, l2, l3, some (.int x)] st M Q) ∧
  (∀ (d : Nat) (st : List Value) (M : jx_M) (Q : jx_Po) (l0 l1 l2 l4 : Option Value) (x : Int32), jx_Ev d 12 5 [l0, l1, l2, some (.int x), l4] st M Q ↔ jx_Ev d 12 6 [l0, l1, l2, some (.int x), l4] (.int x :: st) M Q) ∧
  (∀ (d : Nat) (lv : List (Option Value)) (st : List Value) (M : jx_M) (Q : jx_Po) (x z : Int32), jx_Ev d 12 6 lv (.int z :: .int x :: st) M Q ↔ (if z ≤ x then jx_Ev d 12 60 lv st M Q else jx_Ev d 12 9 lv st M Q)) ∧
  (∀ (d : Nat) (st : List Value) (M : jx_M) (Q : jx_Po) (l0 l1 l2 l3 : Option Value) (x : Int32), jx_Ev d 12 9 [l0, l1, l2, l3, some (.int x)] st M Q ↔ jx_Ev d 12 11 [l0, l1, l2, l3, some (.int x)] (.int x :: st) M Q) ∧
  (∀ (d : Nat) (lv : List (Option Value)) (st : List Value) (M : jx_M) (Q : jx_Po), jx_Ev d 12 11 lv st M Q ↔ jx_Ev d 12 13 lv (.int 6 :: st) M Q) ∧
  (∀ (d : Nat) (lv : List (Option Value)) (st : List Value) (M : jx_M) (Q : jx_Po) (x z : Int32), jx_Ev d 12 13 lv (.int z :: .int x :: st) M Q ↔ (if z ≤ x then jx_Ev d 12 60 lv st M Q else jx_Ev d 12 16 lv st M Q)) ∧
  (∀ (d : Nat) (st : List Value) (M : jx_M) (Q : jx_Po) (l1 l2 l3 l4 : Option Value) (x : Nat), jx_Ev d 12 16 [some (.ref x), l1, l2, l3, l4] st M Q ↔ jx_Ev d 12 17 [some (.ref x), l1, l2, l3, l4] (.ref x :: st) M Q) ∧
  (∀ (d : Nat) (lv : List (Option Value)) (st : List Value) (M : jx_M) (Q : jx_Po), jx_Ev d 12 17 lv (.ref 7 :: st) M Q ↔ jx_Ev d 12 20 lv (.ref 8 :: st) M Q) ∧
  (∀ (d : Nat) (st : List Value) (M : jx_M) (Q : jx_Po) (l0 l1 l2 l3 : Option Value) (x : Int32), jx_Ev d 12 20 [l0, l1, l2, l3, some (.int x)] st M Q ↔ jx_Ev d 12 22 [l0, l1, l2, l3, some (.int x)] (.int x :: st) M Q) ∧
  (∀ (d : Nat) (st : List Value) (M : jx_M) (Q : jx_Po) (l0 l2 l3 l4 : Option Value) (x : Nat), jx_Ev d 12 22 [l0, some (.ref x), l2, l3, l4] st M Q ↔ jx_Ev d 12 23 [l0, some (.ref x), l2, l3, l4] (.ref x :: st) M Q) ∧
  (∀ (d : Nat) (st : List Value) (M : jx_M) (Q : jx_Po) (l0 l1 l3 l4 : Option Value) (x : Int32), jx_Ev d 12 23 [l0, l1, some (.int x), l3, l4] st M Q ↔ jx_Ev d 12 24 [l0, l1, some (.int x), l3, l4] (.int x :: st) M Q) ∧
  (∀ (d : Nat) (st : List Value) (M : jx_M) (Q : jx_Po) (l0 l1 l2 l3 : Option Value) (x : Int32), jx_Ev d 12 24 [l0, l1, l2, l3, some (.int x)] st M Q ↔ jx_Ev d 12 26 [l0, l1, l2, l3, some (.int x)] (.int x :: st) M Q) ∧
  (∀ (d : Nat) (lv : List (Option Value)) (st : List Value) (M : jx_M) (Q : jx_Po) (x z : Int32), jx_Ev d 12 26 lv (.int z :: .int x :: st) M Q ↔ jx_Ev d 12 27 lv (.int (x + z) :: st) M Q) ∧
  (∀ (d : Nat) (lv : List (Option Value)) (M : jx_M) (Q : jx_Po) (a0 : Int32) (a1 : Nat) (a2 : Int32) (a3 : Nat) (hk : jx_cl a1 = 4), jx_Ev (d + 1) 12 27 lv [.int a0, .ref a1, .int a2, .ref a3] M Q ↔ jx_I d 23 [.ref a1, .int a0] M (fun x M => jx_Ev (d + 1) 12 30 lv (.int x :: [.int a2, .ref a3]) M Q)) ∧
  (∀ (d : Nat) (lv : List (Option Value)) (st : List Value) (M : jx_M) (Q : jx_Po) (x z : Int32) (a : Nat) (ha : jx_cl a = 9), jx_Ev d 12 30 lv (.int z :: .int x :: .ref a :: st) M Q ↔ (vp_in x (jx_sz a) ∧ jx_Ev d 12 31 lv st (jx_up M a x.toNatClampNeg z) Q)) ∧
  (∀ (d : Nat) (st : List Value) (M : jx_M) (Q : jx_Po) (l1 l2 l3 l4 : Option Value) (x : Nat), jx_Ev d 12 31 [some (.ref x), l1, l2, l3, l4] st M Q ↔ jx_Ev d 12 32 [some (.ref x), l1, l2, l3, l4] (.ref x :: st) M Q) ∧
  (∀ (d : Nat) (lv : List (Option Value)) (st : List Value) (M : jx_M) (Q : jx_Po), jx_Ev d 12 32 lv (.ref 7 :: st) M Q ↔ jx_Ev d 12 35 lv (.ref 8 :: st) M Q) ∧
  (∀ (d : Nat) (st : List Value) (M : jx_M) (Q : jx_Po) (l0 l1 l2 l3 : Option Value) (x : Int32), jx_Ev d 12 35 [l0, l1, l2, l3, some (.int x)] st M Q ↔ jx_Ev d 12 37 [l0, l1, l2, l3, some (.int x)] (.int x :: st) M Q) ∧
  (∀ (d : Nat) (lv : List (Option Value)) (st : List Value) (M : jx_M) (Q : jx_Po) (x : Int32) (a : Nat) (ha : jx_cl a = 9), jx_Ev d 12 37 lv (.int x :: .ref a :: st) M Q ↔ (vp_in x (jx_sz a) ∧ jx_Ev d 12 38 lv (.int (M a x.toNatClampNeg) :: st) M Q)) ∧
  (∀ (d : Nat) (lv : List (Option Value)) (st : List Value) (M : jx_M) (Q : jx_Po) (x : Int32), jx_Ev d 12 38 lv (.int x :: st) M Q ↔ (if x < 0 then jx_Ev d 12 52 lv st M Q else jx_Ev d 12 41 lv st M Q)) ∧
  (∀ (d : Nat) (st : List Value) (M : jx_M) (Q : jx_Po) (l1 l2 l3 l4 : Option Value) (x : Nat), jx_Ev d 12 41 [some (.ref x), l1, l2, l3, l4] st M Q ↔ jx_Ev d 12 42 [some (.ref x), l1, l2, l3, l4] (.ref x :: st) M Q) ∧
  (∀ (d : Nat) (lv : List (Option Value)) (st : List Value) (M : jx_M) (Q : jx_Po), jx_Ev d 12 42 lv (.ref 7 :: st) M Q ↔ jx_Ev d 12 45 lv (.ref 8 :: st) M Q) ∧
  (∀ (d : Nat) (st : List Value) (M : jx_M) (Q : jx_Po) (l0 l1 l2 l3 : Option Value) (x : Int32), jx_Ev d 12 45 [l0, l1, l2, l3, some (.int x)] st M Q ↔ jx_Ev d 12 47 [l0, l1, l2, l3, some (.int x)] (.int x :: st) M Q) ∧
  (∀ (d : Nat) (lv : List (Option Value)) (st : List Value) (M : jx_M) (Q : jx_Po) (x : Int32) (a : Nat) (ha : jx_cl a = 9), jx_Ev d 12 47 lv (.int x :: .ref a :: st) M Q ↔ (vp_in x (jx_sz a) ∧ jx_Ev d 12 48 lv (.int (M a x.toNatClampNeg) :: st) M Q)) ∧
  (∀ (d : Nat) (lv : List (Option Value)) (st : List Value) (M : jx_M) (Q : jx_Po), jx_Ev d 12 48 lv st M Q ↔ jx_Ev d 12 49 lv (.int 4 :: st) M Q) ∧
  (∀ (d : Nat) (lv : List (Option Value)) (st : List Value) (M : jx_M) (Q : jx_Po) (x z : Int32), jx_Ev d 12 49 lv (.int z :: .int x :: st) M Q ↔ (if x < z then jx_Ev d 12 54 lv st M Q else jx_Ev d 12 52 lv st M Q)) ∧
  (∀ (d : Nat) (lv : List (Option Value)) (st : List Value) (M : jx_M) (Q : jx_Po), jx_Ev d 12 52 lv st M Q ↔ jx_Ev d 12 53 lv (.int 0 :: st) M Q) ∧
  (∀ (d : Nat) (lv : List (Option Value)) (M : jx_M) (Q : jx_Po) (x : Int32), jx_Ev d 12 53 lv [.int x] M Q ↔ ((x = 0 ∨ x = 1) ∧ Q [.int x] M)) ∧
  (∀ (d : Nat) (st : List Value) (M : jx_M) (Q : jx_Po) (l0 l1 l2 l3 : Option Value) (x : Int32), jx_Ev d 12 54 [l0, l1, l2, l3, some (.int x)] st M Q ↔ jx_Ev d 12 57 [l0, l1, l2, l3, some (.int (x + 1))] st M Q) ∧
  (∀ (d : Nat) (lv : List (Option Value)) (st : List Value) (M : jx_M) (Q : jx_Po), jx_Ev d 12 57 lv st M Q ↔ jx_Ev d 12 3 lv st M Q) ∧
  (∀ (d : Nat) (lv : List (Option Value)) (st : List Value) (M : jx_M) (Q : jx_Po), jx_Ev d 12 60 lv st M Q ↔ jx_Ev d 12 61 lv (.int 1 :: st) M Q) ∧
  (∀ (d : Nat) (lv : List (Option Value)) (M : jx_M) (Q : jx_Po) (x : Int32), jx_Ev d 12 61 lv [.int x] M Q ↔ ((x = 0 ∨ x = 1) ∧ Q [.int x] M)) := by
  refine ⟨?_, ?_, ?_, ?_, ?_, ?_, ?_, ?_, ?_, ?_, ?_, ?_, ?_, ?_, ?_, ?_, ?_, ?_, ?_, ?_, ?_, ?_, ?_, ?_, ?_, ?_, ?_, ?_, ?_, ?_, ?_, ?_, ?_⟩
  · exact fun d lv st M Q => jx_ev_st (jx_fok (by decide +kernel : decode (jx_mb 12) 0 = .ok (.iconst 0, 1))) rfl rfl rfl
  · exact fun d st M Q l0 l1 l2 l3 l4 x => jx_ev_st (jx_fok (by decide +kernel : decode (jx_mb 12) 1 = .ok (.istore 4, 2))) rfl rfl rfl
  · exact fun d st M Q l0 l1 l2 l4 x => jx_ev_st (jx_fok (by decide +kernel : decode (jx_mb 12) 5 = .ok (.iload_n 3, 1))) rfl rfl rfl
  · exact fun d lv st M Q x z => jx_k_b2 (jx_fok (by decide +kernel : decode (jx_mb 12) 6 = .ok (.if_icmp .ge 54, 3))) rfl jx_hGe
  · exact fun d st M Q l0 l1 l2 l3 x => jx_ev_st (jx_fok (by decide +kernel : decode (jx_mb 12) 9 = .ok (.iload 4, 2))) rfl rfl rfl
  · exact fun d lv st M Q => jx_ev_st (jx_fok (by decide +kernel : decode (jx_mb 12) 11 = .ok (.bipush 6, 2))) rfl rfl rfl
  · exact fun d lv st M Q x z => jx_k_b2 (jx_fok (by decide +kernel : decode (jx_mb 12) 13 = .ok (.if_icmp .ge 47, 3))) rfl jx_hGe
  · exact fun d st M Q l1 l2 l3 l4 x => jx_ev_st (jx_fok (by decide +kernel : decode (jx_mb 12) 16 = .ok (.aload_n 0, 1))) rfl rfl rfl
  · exact fun d lv st M Q => jx_k_gf (jx_fok (by decide +kernel : decode (jx_mb 12) 17 = .ok (.getfield 9, 3))) rfl rfl rfl
  · exact fun d st M Q l0 l1 l2 l3 x => jx_ev_st (jx_fok (by decide +kernel : decode (jx_mb 12) 20 = .ok (.iload 4, 2))) rfl rfl rfl
  · exact fun d st M Q l0 l2 l3 l4 x => jx_ev_st (jx_fok (by decide +kernel : decode (jx_mb 12) 22 = .ok (.aload_n 1, 1))) rfl rfl rfl
  · exact fun d st M Q l0 l1 l3 l4 x => jx_ev_st (jx_fok (by decide +kernel : decode (jx_mb 12) 23 = .ok (.iload_n 2, 1))) rfl rfl rfl
  · exact fun d st M Q l0 l1 l2 l3 x => jx_ev_st (jx_fok (by decide +kernel : decode (jx_mb 12) 24 = .ok (.iload 4, 2))) rfl rfl rfl
  · exact fun d lv st M Q x z => jx_ev_st (jx_fok (by decide +kernel : decode (jx_mb 12) 26 = .ok (.iadd, 1))) rfl rfl rfl
  · exact fun d lv M Q a0 a1 a2 a3 hk => jx_ev_ci (jx_fok (by decide +kernel : decode (jx_mb 12) 27 = .ok (.invokevirtual 15, 3))) rfl (jx_ccV (As := [.int a0]) (rest := [.int a2, .ref a3]) rfl rfl rfl hk rfl rfl) (by decide)
  · exact fun d lv st M Q x z a ha => jx_k_as (jx_fok (by decide +kernel : decode (jx_mb 12) 30 = .ok (.iastore, 1))) ha
  · exact fun d st M Q l1 l2 l3 l4 x => jx_ev_st (jx_fok (by decide +kernel : decode (jx_mb 12) 31 = .ok (.aload_n 0, 1))) rfl rfl rfl
  · exact fun d lv st M Q => jx_k_gf (jx_fok (by decide +kernel : decode (jx_mb 12) 32 = .ok (.getfield 9, 3))) rfl rfl rfl
  · exact fun d st M Q l0 l1 l2 l3 x => jx_ev_st (jx_fok (by decide +kernel : decode (jx_mb 12) 35 = .ok (.iload 4, 2))) rfl rfl rfl
  · exact fun d lv st M Q x a ha => jx_k_al (jx_fok (by decide +kernel : decode (jx_mb 12) 37 = .ok (.iaload, 1))) ha
  · exact fun d lv st M Q x => jx_k_b1 (jx_fok (by decide +kernel : decode (jx_mb 12) 38 = .ok (.ifCond .lt 14, 3))) rfl jx_hLt
  · exact fun d st M Q l1 l2 l3 l4 x => jx_ev_st (jx_fok (by decide +kernel : decode (jx_mb 12) 41 = .ok (.aload_n 0, 1))) rfl rfl rfl
  · exact fun d lv st M Q => jx_k_gf (jx_fok (by decide +kernel : decode (jx_mb 12) 42 = .ok (.getfield 9, 3))) rfl rfl rfl
  · exact fun d st M Q l0 l1 l2 l3 x => jx_ev_st (jx_fok (by decide +kernel : decode (jx_mb 12) 45 = .ok (.iload 4, 2))) rfl rfl rfl
  · exact fun d lv st M Q x a ha => jx_k_al (jx_fok (by decide +kernel : decode (jx_mb 12) 47 = .ok (.iaload, 1))) ha
  · exact fun d lv st M Q => jx_ev_st (jx_fok (by decide +kernel : decode (jx_mb 12) 48 = .ok (.iconst 4, 1))) rfl rfl rfl
  · exact fun d lv st M Q x z => jx_k_b2 (jx_fok (by decide +kernel : decode (jx_mb 12) 49 = .ok (.if_icmp .lt 5, 3))) rfl jx_hLt
  · exact fun d lv st M Q => jx_ev_st (jx_fok (by decide +kernel : decode (jx_mb 12) 52 = .ok (.iconst 0, 1))) rfl rfl rfl
  · exact fun d lv M Q x => jx_k_rz (jx_fok (by decide +kernel : decode (jx_mb 12) 53 = .ok (.ireturn, 1))) rfl
  · exact fun d st M Q l0 l1 l2 l3 x => jx_ev_st (jx_fok (by decide +kernel : decode (jx_mb 12) 54 = .ok (.iinc 4 1, 3))) rfl rfl rfl
  · exact fun d lv st M Q => jx_k_goto (jx_fok (by decide +kernel : decode (jx_mb 12) 57 = .ok (.goto (-54), 3))) rfl
  · exact fun d lv st M Q => jx_ev_st (jx_fok (by decide +kernel : decode (jx_mb 12) 60 = .ok (.iconst 1, 1))) rfl rfl rfl
  · exact fun d lv M Q x => jx_k_rz (jx_fok (by decide +kernel : decode (jx_mb 12) 61 = .ok (.ireturn, 1))) rfl
theorem eX2_takeMonths_3 (d : Nat) (st : List Value) (M : jx_M) (Q : jx_Po) (l0 l1 l2 l3 : Option Value) (x : Int32) : jx_Ev d 12 3 [l0, l1, l2, l3, some (.int x)] st M Q ↔ jx_Ev d 12 5 [l0, l1, l2, l3, some (.int x)] (.int x :: st) M Q := jx_ev_st (jx_fok (by decide +kernel : decode (jx_mb 12) 3 = .ok (.iload 4, 2))) rfl rfl rfl
theorem kX2_takeMonths (d : Nat) (M : jx_M) (q : Int32 → jx_M → Prop) (a0 a1 a2 a3 : Value) : jx_I d 12 [a0, a1, a2, a3] M q ↔ jx_Ev d 12 0 [some a0, some a1, some a2, some a3, none] [] M (jx_qI q) := Iff.rfl
set_option maxRecDepth 100000 in
theorem eX2_monthsTaken :
  (∀ (d : Nat) (lv : List (Option Value)) (st : List Value) (M : jx_M) (Q : jx_Po), jx_Ev d 13 0 lv st M Q ↔ jx_Ev d 13 1 lv (.int 0 :: st) M Q) ∧
  (∀ (d : Nat) (st : List Value) (M : jx_M) (Q : jx_Po) (l0 l1 l2 l3 : Option Value) (x : Int32), jx_Ev d 13 1 [l0, l1, l2, l3] (.int x :: st) M Q ↔ jx_Ev d 13 2 [l0, l1, some (.int x), l3] st M Q) ∧
  (∀ (d : Nat) (lv : List (Option Value)) (st : List Value) (M : jx_M) (Q : jx_Po), jx_Ev d 13 2 lv st M Q ↔ jx_Ev d 13 3 lv (.int 0 :: st) M Q) ∧
  (∀ (d : Nat) (st : List Value) (M : jx_M) (Q : jx_Po) (l0 l1 l2 l3 : Option Value) (x : Int32), jx_Ev d 13 3 [l0, l1, l2, l3] (.int x :: st) M Q ↔ jx_Ev d 13 4 [l0, l1, l2, some (.int x)] st M Q) ∧
  (∀ (d : Nat) (st : List Value) (M : jx_M) (Q : jx_Po) (l0 l2 l3 : Option Value) (x : Nat), jx_Ev d 13 5 [l0, some (.ref x), l2, l3] st M Q ↔ jx_Ev d 13 6 [l0, some (.ref x), l2, l3] (.ref x :: st) M Q) ∧
  (∀ (d : Nat) (lv : List (Option Value)) (st : List Value) (M : jx_M) (Q : jx_Po) (k : Nat) (hk : jx_cl k = 1), jx_Ev d 13 6 lv (.ref k :: st) M Q ↔ jx_Ev d 13 9 lv (.int (M k 6) :: st) M Q) ∧
  (∀ (d : Nat) (lv : List (Option Value)) (st : List Value) (M : jx_M) (Q : jx_Po) (x z : Int32), jx_Ev d 13 9 lv (.int z :: .int x :: st) M Q ↔ (if z ≤ x then jx_Ev d 13 35 lv st M Q else jx_Ev d 13 12 lv st M Q)) ∧
  (∀ (d : Nat) (st : List Value) (M : jx_M) (Q : jx_Po) (l0 l1 l2 : Option Value) (x : Int32), jx_Ev d 13 12 [l0, l1, l2, some (.int x)] st M Q ↔ jx_Ev d 13 13 [l0, l1, l2, some (.int x)] (.int x :: st) M Q) ∧
  (∀ (d : Nat) (lv : List (Option Value)) (st : List Value) (M : jx_M) (Q : jx_Po), jx_Ev d 13 13 lv st M Q ↔ jx_Ev d 13 15 lv (.int 6 :: st) M Q) ∧
  (∀ (d : Nat) (lv : List (Option Value)) (st : List Value) (M : jx_M) (Q : jx_Po) (x z : Int32), jx_Ev d 13 15 lv (.int z :: .int x :: st) M Q ↔ (if z ≤ x then jx_Ev d 13 35 lv st M Q else jx_Ev d 13 18 lv st M Q)) ∧
  (∀ (d : Nat) (st : List Value) (M : jx_M) (Q : jx_Po) (l0 l1 l3 : Option Value) (x : Int32), jx_Ev d 13 18 [l0, l1, some (.int x), l3] st M Q ↔ jx_Ev d 13 19 [l0, l1, some (.int x), l3] (.int x :: st) M Q) ∧
  (∀ (d : Nat) (lv : List (Option Value)) (st : List Value) (M : jx_M) (Q : jx_Po), jx_Ev d 13 19 lv st M Q ↔ jx_Ev d 13 20 lv (.int 1 :: st) M Q) ∧
  (∀ (d : Nat) (st : List Value) (M : jx_M) (Q : jx_Po) (l1 l2 l3 : Option Value) (x : Nat), jx_Ev d 13 20 [some (.ref x), l1, l2, l3] st M Q ↔ jx_Ev d 13 21 [some (.ref x), l1, l2, l3] (.ref x :: st) M Q) ∧
  (∀ (d : Nat) (lv : List (Option Value)) (st : List Value) (M : jx_M) (Q : jx_Po), jx_Ev d 13 21 lv (.ref 7 :: st) M Q ↔ jx_Ev d 13 24 lv (.ref 8 :: st) M Q) ∧
  (∀ (d : Nat) (st : List Value) (M : jx_M) (Q : jx_Po) (l0 l1 l2 : Option Value) (x : Int32), jx_Ev d 13 24 [l0, l1, l2, some (.int x)] st M Q ↔ jx_Ev d 13 25 [l0, l1, l2, some (.int x)] (.int x :: st) M Q) ∧
  (∀ (d : Nat) (lv : List (Option Value)) (st : List Value) (M : jx_M) (Q : jx_Po) (x : Int32) (a : Nat) (ha : jx_cl a = 9), jx_Ev d 13 25 lv (.int x :: .ref a :: st) M Q ↔ (vp_in x (jx_sz a) ∧ jx_Ev d 13 26 lv (.int (M a x.toNatClampNeg) :: st) M Q)) ∧
  (∀ (d : Nat) (lv : List (Option Value)) (st : List Value) (M : jx_M) (Q : jx_Po) (x z : Int32), jx_Ev d 13 26 lv (.int z :: .int x :: st) M Q ↔ jx_Ev d 13 27 lv (.int (x <<< (z &&& 31)) :: st) M Q) ∧
  (∀ (d : Nat) (lv : List (Option Value)) (st : List Value) (M : jx_M) (Q : jx_Po) (x z : Int32), jx_Ev d 13 27 lv (.int z :: .int x :: st) M Q ↔ jx_Ev d 13 28 lv (.int (x ||| z) :: st) M Q) ∧
  (∀ (d : Nat) (st : List Value) (M : jx_M) (Q : jx_Po) (l0 l1 l2 l3 : Option Value) (x : Int32), jx_Ev d 13 28 [l0, l1, l2, l3] (.int x :: st) M Q ↔ jx_Ev d 13 29 [l0, l1, some (.int x), l3] st M Q) ∧
  (∀ (d : Nat) (st : List Value) (M : jx_M) (Q : jx_Po) (l0 l1 l2 : Option Value) (x : Int32), jx_Ev d 13 29 [l0, l1, l2, some (.int x)] st M Q ↔ jx_Ev d 13 32 [l0, l1, l2, some (.int (x + 1))] st M Q) ∧
  (∀ (d : Nat) (lv : List (Option Value)) (st : List Value) (M : jx_M) (Q : jx_Po), jx_Ev d 13 32 lv st M Q ↔ jx_Ev d 13 4 lv st M Q) ∧
  (∀ (d : Nat) (st : List Value) (M : jx_M) (Q : jx_Po) (l0 l1 l3 : Option Value) (x : Int32), jx_Ev d 13 35 [l0, l1, some (.int x), l3] st M Q ↔ jx_Ev d 13 36 [l0, l1, some (.int x), l3] (.int x :: st) M Q) ∧
  (∀ (d : Nat) (lv : List (Option Value)) (M : jx_M) (Q : jx_Po) (x : Int32), jx_Ev d 13 36 lv [.int x] M Q ↔ Q [.int x] M) := by
  refine ⟨?_, ?_, ?_, ?_, ?_, ?_, ?_, ?_, ?_, ?_, ?_, ?_, ?_, ?_, ?_, ?_, ?_, ?_, ?_, ?_, ?_, ?_, ?_⟩
  · exact fun d lv st M Q => jx_ev_st (jx_fok (by decide +kernel : decode (jx_mb 13) 0 = .ok (.iconst 0, 1))) rfl rfl rfl
  · exact fun d st M Q l0 l1 l2 l3 x => jx_ev_st (jx_fok (by decide +kernel : decode (jx_mb 13) 1 = .ok (.istore_n 2, 1))) rfl rfl rfl
  · exact fun d lv st M Q => jx_ev_st (jx_fok (by decide +kernel : decode (jx_mb 13) 2 = .ok (.iconst 0, 1))) rfl rfl rfl
  · exact fun d st M Q l0 l1 l2 l3 x => jx_ev_st (jx_fok (by decide +kernel : decode (jx_mb 13) 3 = .ok (.istore_n 3, 1))) rfl rfl rfl
  · exact fun d st M Q l0 l2 l3 x => jx_ev_st (jx_fok (by decide +kernel : decode (jx_mb 13) 5 = .ok (.aload_n 1, 1))) rfl rfl rfl
  · exact fun d lv st M Q k hk => jx_k_gf (jx_fok (by decide +kernel : decode (jx_mb 13) 6 = .ok (.getfield 21, 3))) rfl hk rfl
  · exact fun d lv st M Q x z => jx_k_b2 (jx_fok (by decide +kernel : decode (jx_mb 13) 9 = .ok (.if_icmp .ge 26, 3))) rfl jx_hGe
  · exact fun d st M Q l0 l1 l2 x => jx_ev_st (jx_fok (by decide +kernel : decode (jx_mb 13) 12 = .ok (.iload_n 3, 1))) rfl rfl rfl
  · exact fun d lv st M Q => jx_ev_st (jx_fok (by decide +kernel : decode (jx_mb 13) 13 = .ok (.bipush 6, 2))) rfl rfl rfl
  · exact fun d lv st M Q x z => jx_k_b2 (jx_fok (by decide +kernel : decode (jx_mb 13) 15 = .ok (.if_icmp .ge 20, 3))) rfl jx_hGe
  · exact fun d st M Q l0 l1 l3 x => jx_ev_st (jx_fok (by decide +kernel : decode (jx_mb 13) 18 = .ok (.iload_n 2, 1))) rfl rfl rfl
  · exact fun d lv st M Q => jx_ev_st (jx_fok (by decide +kernel : decode (jx_mb 13) 19 = .ok (.iconst 1, 1))) rfl rfl rfl
  · exact fun d st M Q l1 l2 l3 x => jx_ev_st (jx_fok (by decide +kernel : decode (jx_mb 13) 20 = .ok (.aload_n 0, 1))) rfl rfl rfl
  · exact fun d lv st M Q => jx_k_gf (jx_fok (by decide +kernel : decode (jx_mb 13) 21 = .ok (.getfield 9, 3))) rfl rfl rfl
  · exact fun d st M Q l0 l1 l2 x => jx_ev_st (jx_fok (by decide +kernel : decode (jx_mb 13) 24 = .ok (.iload_n 3, 1))) rfl rfl rfl
  · exact fun d lv st M Q x a ha => jx_k_al (jx_fok (by decide +kernel : decode (jx_mb 13) 25 = .ok (.iaload, 1))) ha
  · exact fun d lv st M Q x z => jx_ev_st (jx_fok (by decide +kernel : decode (jx_mb 13) 26 = .ok (.ishl, 1))) rfl rfl rfl
  · exact fun d lv st M Q x z => jx_ev_st (jx_fok (by decide +kernel : decode (jx_mb 13) 27 = .ok (.ior, 1))) rfl rfl rfl
  · exact fun d st M Q l0 l1 l2 l3 x => jx_ev_st (jx_fok (by decide +kernel : decode (jx_mb 13) 28 = .ok (.istore_n 2, 1))) rfl rfl rfl
  · exact fun d st M Q l0 l1 l2 x => jx_ev_st (jx_fok (by decide +kernel : decode (jx_mb 13) 29 = .ok (.iinc 3 1, 3))) rfl rfl rfl
  · exact fun d lv st M Q => jx_k_goto (jx_fok (by decide +kernel : decode (jx_mb 13) 32 = .ok (.goto (-28), 3))) rfl
  · exact fun d st M Q l0 l1 l3 x => jx_ev_st (jx_fok (by decide +kernel : decode (jx_mb 13) 35 = .ok (.iload_n 2, 1))) rfl rfl rfl
  · exact fun d lv M Q x => jx_k_ri (jx_fok (by decide +kernel : decode (jx_mb 13) 36 = .ok (.ireturn, 1))) rfl
theorem eX2_monthsTaken_4 (d : Nat) (st : List Value) (M : jx_M) (Q : jx_Po) (l0 l1 l2 : Option Value) (x : Int32) : jx_Ev d 13 4 [l0, l1, l2, some (.int x)] st M Q ↔ jx_Ev d 13 5 [l0, l1, l2, some (.int x)] (.int x :: st) M Q := jx_ev_st (jx_fok (by decide +kernel : decode (jx_mb 13) 4 = .ok (.iload_n 3, 1))) rfl rfl rfl
theorem kX2_monthsTaken (d : Nat) (M : jx_M) (q : Int32 → jx_M → Prop) (a0 a1 : Value) : jx_I d 13 [a0, a1] M q ↔ jx_Ev d 13 0 [some a0, some a1, none, none] [] M (jx_qI q) := Iff.rfl
set_option maxRecDepth 100000 in
theorem eX2_harmTo :
  (∀ (d : Nat) (lv : List (Option Value)) (st : List Value) (M : jx_M) (Q : jx_Po), jx_Ev d 14 0 lv st M Q ↔ jx_Ev d 14 1 lv (.int 0 :: st) M Q) ∧
  (∀ (d : Nat) (st : List Value) (M : jx_M) (Q : jx_Po) (l0 l1 l2 l3 l4 : Option Value) (x : Int32), jx_Ev d 14 1 [l0, l1, l2, l3, l4] (.int x :: st) M Q ↔ jx_Ev d 14 2 [l0, l1, l2, some (.int x), l4] st M Q) ∧
  (∀ (d : Nat) (lv : List (Option Value)) (st : List Value) (M : jx_M) (Q : jx_Po), jx_Ev d 14 2 lv st M Q ↔ jx_Ev d 14 3 lv (.int 0 :: st) M Q) ∧
  (∀ (d : Nat) (st : List Value) (M : jx_M) (Q : jx_Po) (l0 l1 l2 l3 l4 : Option Value) (x : Int32), jx_Ev d 14 3 [l0, l1, l2, l3, l4] (.int x :: st) M Q ↔ jx_Ev d 14 5 [l0, l1, l2, l3, some (.int x)] st M Q) ∧
  (∀ (d : Nat) (lv : List (Option Value)) (st : List Value) (M : jx_M) (Q : jx_Po), jx_Ev d 14 7 lv st M Q ↔ jx_Ev d 14 8 lv (.int 4 :: st) M Q) ∧
  (∀ (d : Nat) (lv : List (Option Value)) (st : List Value) (M : jx_M) (Q : jx_Po) (x z : Int32), jx_Ev d 14 8 lv (.int z :: .int x :: st) M Q ↔ (if z ≤ x then jx_Ev d 14 28 lv st M Q else jx_Ev d 14 11 lv st M Q)) ∧
  (∀ (d : Nat) (st : List Value) (M : jx_M) (Q : jx_Po) (l0 l1 l2 l4 : Option Value) (x : Int32), jx_Ev d 14 11 [l0, l1, l2, some (.int x), l4] st M Q ↔ jx_Ev d 14 12 [l0, l1, l2, some (.int x), l4] (.int x :: st) M Q) ∧
  (∀ (d : Nat) (st : List Value) (M : jx_M) (Q : jx_Po) (l1 l2 l3 l4 : Option Value) (x : Nat), jx_Ev d 14 12 [some (.ref x), l1, l2, l3, l4] st M Q ↔ jx_Ev d 14 13 [some (.ref x), l1, l2, l3, l4] (.ref x :: st) M Q) ∧
  (∀ (d : Nat) (st : List Value) (M : jx_M) (Q : jx_Po) (l0 l2 l3 l4 : Option Value) (x : Nat), jx_Ev d 14 13 [l0, some (.ref x), l2, l3, l4] st M Q ↔ jx_Ev d 14 14 [l0, some (.ref x), l2, l3, l4] (.ref x :: st) M Q) ∧
  (∀ (d : Nat) (st : List Value) (M : jx_M) (Q : jx_Po) (l0 l1 l3 l4 : Option Value) (x : Int32), jx_Ev d 14 14 [l0, l1, some (.int x), l3, l4] st M Q ↔ jx_Ev d 14 15 [l0, l1, some (.int x), l3, l4] (.int x :: st) M Q) ∧
  (∀ (d : Nat) (st : List Value) (M : jx_M) (Q : jx_Po) (l0 l1 l2 l3 : Option Value) (x : Int32), jx_Ev d 14 15 [l0, l1, l2, l3, some (.int x)] st M Q ↔ jx_Ev d 14 17 [l0, l1, l2, l3, some (.int x)] (.int x :: st) M Q) ∧
  (∀ (d : Nat) (lv : List (Option Value)) (M : jx_M) (Q : jx_Po) (a0 : Int32) (a1 : Int32) (a2 : Nat) (a4 : Int32), jx_Ev (d + 1) 14 17 lv [.int a0, .int a1, .ref a2, .ref 7, .int a4] M Q ↔ jx_I d 15 [.ref 7, .ref a2, .int a1, .int a0] M (fun x M => jx_Ev (d + 1) 14 20 lv (.int x :: [.int a4]) M Q)) ∧
  (∀ (d : Nat) (lv : List (Option Value)) (st : List Value) (M : jx_M) (Q : jx_Po) (x z : Int32), jx_Ev d 14 20 lv (.int z :: .int x :: st) M Q ↔ jx_Ev d 14 21 lv (.int (x + z) :: st) M Q) ∧
  (∀ (d : Nat) (st : List Value) (M : jx_M) (Q : jx_Po) (l0 l1 l2 l3 l4 : Option Value) (x : Int32), jx_Ev d 14 21 [l0, l1, l2, l3, l4] (.int x :: st) M Q ↔ jx_Ev d 14 22 [l0, l1, l2, some (.int x), l4] st M Q) ∧
  (∀ (d : Nat) (st : List Value) (M : jx_M) (Q : jx_Po) (l0 l1 l2 l3 : Option Value) (x : Int32), jx_Ev d 14 22 [l0, l1, l2, l3, some (.int x)] st M Q ↔ jx_Ev d 14 25 [l0, l1, l2, l3, some (.int (x + 1))] st M Q) ∧
  (∀ (d : Nat) (lv : List (Option Value)) (st : List Value) (M : jx_M) (Q : jx_Po), jx_Ev d 14 25 lv st M Q ↔ jx_Ev d 14 5 lv st M Q) ∧
  (∀ (d : Nat) (st : List Value) (M : jx_M) (Q : jx_Po) (l0 l1 l2 l4 : Option Value) (x : Int32), jx_Ev d 14 28 [l0, l1, l2, some (.int x), l4] st M Q ↔ jx_Ev d 14 29 [l0, l1, l2, some (.int x), l4] (.int x :: st) M Q) ∧
  (∀ (d : Nat) (lv : List (Option Value)) (M : jx_M) (Q : jx_Po) (x : Int32), jx_Ev d 14 29 lv [.int x] M Q ↔ Q [.int x] M) := by
  refine ⟨?_, ?_, ?_, ?_, ?_, ?_, ?_, ?_, ?_, ?_, ?_, ?_, ?_, ?_, ?_, ?_, ?_, ?_⟩
  · exact fun d lv st M Q => jx_ev_st (jx_fok (by decide +kernel : decode (jx_mb 14) 0 = .ok (.iconst 0, 1))) rfl rfl rfl
  · exact fun d st M Q l0 l1 l2 l3 l4 x => jx_ev_st (jx_fok (by decide +kernel : decode (jx_mb 14) 1 = .ok (.istore_n 3, 1))) rfl rfl rfl
  · exact fun d lv st M Q => jx_ev_st (jx_fok (by decide +kernel : decode (jx_mb 14) 2 = .ok (.iconst 0, 1))) rfl rfl rfl
  · exact fun d st M Q l0 l1 l2 l3 l4 x => jx_ev_st (jx_fok (by decide +kernel : decode (jx_mb 14) 3 = .ok (.istore 4, 2))) rfl rfl rfl
  · exact fun d lv st M Q => jx_ev_st (jx_fok (by decide +kernel : decode (jx_mb 14) 7 = .ok (.iconst 4, 1))) rfl rfl rfl
  · exact fun d lv st M Q x z => jx_k_b2 (jx_fok (by decide +kernel : decode (jx_mb 14) 8 = .ok (.if_icmp .ge 20, 3))) rfl jx_hGe
  · exact fun d st M Q l0 l1 l2 l4 x => jx_ev_st (jx_fok (by decide +kernel : decode (jx_mb 14) 11 = .ok (.iload_n 3, 1))) rfl rfl rfl
  · exact fun d st M Q l1 l2 l3 l4 x => jx_ev_st (jx_fok (by decide +kernel : decode (jx_mb 14) 12 = .ok (.aload_n 0, 1))) rfl rfl rfl
  · exact fun d st M Q l0 l2 l3 l4 x => jx_ev_st (jx_fok (by decide +kernel : decode (jx_mb 14) 13 = .ok (.aload_n 1, 1))) rfl rfl rfl
  · exact fun d st M Q l0 l1 l3 l4 x => jx_ev_st (jx_fok (by decide +kernel : decode (jx_mb 14) 14 = .ok (.iload_n 2, 1))) rfl rfl rfl
  · exact fun d st M Q l0 l1 l2 l3 x => jx_ev_st (jx_fok (by decide +kernel : decode (jx_mb 14) 15 = .ok (.iload 4, 2))) rfl rfl rfl
  · exact fun d lv M Q a0 a1 a2 a4 => jx_ev_ci (jx_fok (by decide +kernel : decode (jx_mb 14) 17 = .ok (.invokevirtual 27, 3))) rfl (jx_ccV (As := [.ref a2, .int a1, .int a0]) (rest := [.int a4]) rfl rfl rfl rfl rfl rfl) (by decide)
  · exact fun d lv st M Q x z => jx_ev_st (jx_fok (by decide +kernel : decode (jx_mb 14) 20 = .ok (.iadd, 1))) rfl rfl rfl
  · exact fun d st M Q l0 l1 l2 l3 l4 x => jx_ev_st (jx_fok (by decide +kernel : decode (jx_mb 14) 21 = .ok (.istore_n 3, 1))) rfl rfl rfl
  · exact fun d st M Q l0 l1 l2 l3 x => jx_ev_st (jx_fok (by decide +kernel : decode (jx_mb 14) 22 = .ok (.iinc 4 1, 3))) rfl rfl rfl
  · exact fun d lv st M Q => jx_k_goto (jx_fok (by decide +kernel : decode (jx_mb 14) 25 = .ok (.goto (-20), 3))) rfl
  · exact fun d st M Q l0 l1 l2 l4 x => jx_ev_st (jx_fok (by decide +kernel : decode (jx_mb 14) 28 = .ok (.iload_n 3, 1))) rfl rfl rfl
  · exact fun d lv M Q x => jx_k_ri (jx_fok (by decide +kernel : decode (jx_mb 14) 29 = .ok (.ireturn, 1))) rfl
theorem eX2_harmTo_5 (d : Nat) (st : List Value) (M : jx_M) (Q : jx_Po) (l0 l1 l2 l3 : Option Value) (x : Int32) : jx_Ev d 14 5 [l0, l1, l2, l3, some (.int x)] st M Q ↔ jx_Ev d 14 7 [l0, l1, l2, l3, some (.int x)] (.int x :: st) M Q := jx_ev_st (jx_fok (by decide +kernel : decode (jx_mb 14) 5 = .ok (.iload 4, 2))) rfl rfl rfl
theorem kX2_harmTo (d : Nat) (M : jx_M) (q : Int32 → jx_M → Prop) (a0 a1 a2 : Value) : jx_I d 14 [a0, a1, a2] M q ↔ jx_Ev d 14 0 [some a0, some a1, some a2, none, none] [] M (jx_qI q) := Iff.rfl
set_option maxRecDepth 100000 in
theorem eX2_harmIn :
  (∀ (d : Nat) (lv : List (Option Value)) (st : List Value) (M : jx_M) (Q : jx_Po), jx_Ev d 15 0 lv st M Q ↔ jx_Ev d 15 1 lv (.int 0 :: st) M Q) ∧
  (∀ (d : Nat) (st : List Value) (M : jx_M) (Q : jx_Po) (l0 l1 l2 l3 l4 l5 : Option Value) (x : Int32), jx_Ev d 15 1 [l0, l1, l2, l3, l4, l5] (.int x :: st) M Q ↔ jx_Ev d 15 3 [l0, l1, l2, l3, some (.int x), l5] st M Q) ∧
  (∀ (d : Nat) (lv : List (Option Value)) (st : List Value) (M : jx_M) (Q : jx_Po), jx_Ev d 15 3 lv st M Q ↔ jx_Ev d 15 4 lv (.int 0 :: st) M Q) ∧
  (∀ (d : Nat) (st : List Value) (M : jx_M) (Q : jx_Po) (l0 l1 l2 l3 l4 l5 : Option Value) (x : Int32), jx_Ev d 15 4 [l0, l1, l2, l3, l4, l5] (.int x :: st) M Q ↔ jx_Ev d 15 6 [l0, l1, l2, l3, l4, some (.int x)] st M Q) ∧
  (∀ (d : Nat) (lv : List (Option Value)) (st : List Value) (M : jx_M) (Q : jx_Po), jx_Ev d 15 8 lv st M Q ↔ jx_Ev d 15 10 lv (.int 6 :: st) M Q) ∧
  (∀ (d : Nat) (lv : List (Option Value)) (st : List Value) (M : jx_M) (Q : jx_Po) (x z : Int32), jx_Ev d 15 10 lv (.int z :: .int x :: st) M Q ↔ (if z ≤ x then jx_Ev d 15 52 lv st M Q else jx_Ev d 15 13 lv st M Q)) ∧
  (∀ (d : Nat) (st : List Value) (M : jx_M) (Q : jx_Po) (l0 l2 l3 l4 l5 : Option Value) (x : Nat), jx_Ev d 15 13 [l0, some (.ref x), l2, l3, l4, l5] st M Q ↔ jx_Ev d 15 14 [l0, some (.ref x), l2, l3, l4, l5] (.ref x :: st) M Q) ∧
  (∀ (d : Nat) (st : List Value) (M : jx_M) (Q : jx_Po) (l0 l1 l2 l3 l4 : Option Value) (x : Int32), jx_Ev d 15 14 [l0, l1, l2, l3, l4, some (.int x)] st M Q ↔ jx_Ev d 15 16 [l0, l1, l2, l3, l4, some (.int x)] (.int x :: st) M Q) ∧
  (∀ (d : Nat) (st : List Value) (M : jx_M) (Q : jx_Po) (l0 l1 l3 l4 l5 : Option Value) (x : Int32), jx_Ev d 15 16 [l0, l1, some (.int x), l3, l4, l5] st M Q ↔ jx_Ev d 15 17 [l0, l1, some (.int x), l3, l4, l5] (.int x :: st) M Q) ∧
  (∀ (d : Nat) (lv : List (Option Value)) (M : jx_M) (Q : jx_Po) (a0 : Int32) (a1 : Int32) (a2 : Nat) (hk : jx_cl a2 = 1), jx_Ev (d + 1) 15 17 lv [.int a0, .int a1, .ref a2] M Q ↔ jx_I d 7 [.ref a2, .int a1, .int a0] M (fun x M => jx_Ev (d + 1) 15 20 lv (.int x :: []) M Q)) ∧
  (∀ (d : Nat) (lv : List (Option Value)) (st : List Value) (M : jx_M) (Q : jx_Po) (x : Int32), jx_Ev d 15 20 lv (.int x :: st) M Q ↔ (if x = 0 then jx_Ev d 15 46 lv st M Q else jx_Ev d 15 23 lv st M Q)) ∧
  (∀ (d : Nat) (st : List Value) (M : jx_M) (Q : jx_Po) (l1 l2 l3 l4 l5 : Option Value) (x : Nat), jx_Ev d 15 23 [some (.ref x), l1, l2, l3, l4, l5] st M Q ↔ jx_Ev d 15 24 [some (.ref x), l1, l2, l3, l4, l5] (.ref x :: st) M Q) ∧
  (∀ (d : Nat) (lv : List (Option Value)) (st : List Value) (M : jx_M) (Q : jx_Po), jx_Ev d 15 24 lv (.ref 7 :: st) M Q ↔ jx_Ev d 15 27 lv (.ref 8 :: st) M Q) ∧
  (∀ (d : Nat) (st : List Value) (M : jx_M) (Q : jx_Po) (l0 l1 l2 l3 l4 : Option Value) (x : Int32), jx_Ev d 15 27 [l0, l1, l2, l3, l4, some (.int x)] st M Q ↔ jx_Ev d 15 29 [l0, l1, l2, l3, l4, some (.int x)] (.int x :: st) M Q) ∧
  (∀ (d : Nat) (lv : List (Option Value)) (st : List Value) (M : jx_M) (Q : jx_Po) (x : Int32) (a : Nat) (ha : jx_cl a = 9), jx_Ev d 15 29 lv (.int x :: .ref a :: st) M Q ↔ (vp_in x (jx_sz a) ∧ jx_Ev d 15 30 lv (.int (M a x.toNatClampNeg) :: st) M Q)) ∧
  (∀ (d : Nat) (st : List Value) (M : jx_M) (Q : jx_Po) (l0 l1 l2 l4 l5 : Option Value) (x : Int32), jx_Ev d 15 30 [l0, l1, l2, some (.int x), l4, l5] st M Q ↔ jx_Ev d 15 31 [l0, l1, l2, some (.int x), l4, l5] (.int x :: st) M Q) ∧
  (∀ (d : Nat) (lv : List (Option Value)) (st : List Value) (M : jx_M) (Q : jx_Po) (x z : Int32), jx_Ev d 15 31 lv (.int z :: .int x :: st) M Q ↔ (if x = z then jx_Ev d 15 34 lv st M Q else jx_Ev d 15 46 lv st M Q)) ∧
  (∀ (d : Nat) (st : List Value) (M : jx_M) (Q : jx_Po) (l0 l1 l2 l3 l5 : Option Value) (x : Int32), jx_Ev d 15 34 [l0, l1, l2, l3, some (.int x), l5] st M Q ↔ jx_Ev d 15 36 [l0, l1, l2, l3, some (.int x), l5] (.int x :: st) M Q) ∧
  (∀ (d : Nat) (st : List Value) (M : jx_M) (Q : jx_Po) (l0 l2 l3 l4 l5 : Option Value) (x : Nat), jx_Ev d 15 36 [l0, some (.ref x), l2, l3, l4, l5] st M Q ↔ jx_Ev d 15 37 [l0, some (.ref x), l2, l3, l4, l5] (.ref x :: st) M Q) ∧
  (∀ (d : Nat) (st : List Value) (M : jx_M) (Q : jx_Po) (l0 l1 l2 l3 l4 : Option Value) (x : Int32), jx_Ev d 15 37 [l0, l1, l2, l3, l4, some (.int x)] st M Q ↔ jx_Ev d 15 39 [l0, l1, l2, l3, l4, some (.int x)] (.int x :: st) M Q) ∧
  (∀ (d : Nat) (st : List Value) (M : jx_M) (Q : jx_Po) (l0 l1 l2 l4 l5 : Option Value) (x : Int32), jx_Ev d 15 39 [l0, l1, l2, some (.int x), l4, l5] st M Q ↔ jx_Ev d 15 40 [l0, l1, l2, some (.int x), l4, l5] (.int x :: st) M Q) ∧
  (∀ (d : Nat) (lv : List (Option Value)) (M : jx_M) (Q : jx_Po) (a0 : Int32) (a1 : Int32) (a2 : Nat) (a3 : Int32) (hk : jx_cl a2 = 1), jx_Ev (d + 1) 15 40 lv [.int a0, .int a1, .ref a2, .int a3] M Q ↔ jx_I d 10 [.ref a2, .int a1, .int a0] M (fun x M => jx_Ev (d + 1) 15 43 lv (.int x :: [.int a3]) M Q)) ∧
  (∀ (d : Nat) (lv : List (Option Value)) (st : List Value) (M : jx_M) (Q : jx_Po) (x z : Int32), jx_Ev d 15 43 lv (.int z :: .int x :: st) M Q ↔ jx_Ev d 15 44 lv (.int (x + z) :: st) M Q) ∧
  (∀ (d : Nat) (st : List Value) (M : jx_M) (Q : jx_Po) (l0 l1 l2 l3 l4 l5 : Option Value) (x : Int32), jx_Ev d 15 44 [l0, l1, l2, l3, l4, l5] (.int x :: st) M Q ↔ jx_Ev d 15 46 [l0, l1, l2, l3, some (.int x), l5] st M Q) ∧
  (∀ (d : Nat) (st : List Value) (M : jx_M) (Q : jx_Po) (l0 l1 l2 l3 l4 : Option Value) (x : Int32), jx_Ev d 15 46 [l0, l1, l2, l3, l4, some (.int x)] st M Q ↔ jx_Ev d 15 49 [l0, l1, l2, l3, l4, some (.int (x + 1))] st M Q) ∧
  (∀ (d : Nat) (lv : List (Option Value)) (st : List Value) (M : jx_M) (Q : jx_Po), jx_Ev d 15 49 lv st M Q ↔ jx_Ev d 15 6 lv st M Q) ∧
  (∀ (d : Nat) (st : List Value) (M : jx_M) (Q : jx_Po) (l0 l2 l3 l4 l5 : Option Value) (x : Nat), jx_Ev d 15 52 [l0, some (.ref x), l2, l3, l4, l5] st M Q ↔ jx_Ev d 15 53 [l0, some (.ref x), l2, l3, l4, l5] (.ref x :: st) M Q) ∧
  (∀ (d : Nat) (st : List Value) (M : jx_M) (Q : jx_Po) (l0 l1 l3 l4 l5 : Option Value) (x : Int32), jx_Ev d 15 53 [l0, l1, some (.int x), l3, l4, l5] st M Q ↔ jx_Ev d 15 54 [l0, l1, some (.int x), l3, l4, l5] (.int x :: st) M Q) ∧
  (∀ (d : Nat) (lv : List (Option Value)) (M : jx_M) (Q : jx_Po) (a0 : Int32) (a1 : Nat) (hk : jx_cl a1 = 1), jx_Ev (d + 1) 15 54 lv [.int a0, .ref a1] M Q ↔ jx_I d 5 [.ref a1, .int a0] M (fun x M => jx_Ev (d + 1) 15 57 lv (.int x :: []) M Q)) ∧
  (∀ (d : Nat) (lv : List (Option Value)) (st : List Value) (M : jx_M) (Q : jx_Po) (x : Int32), jx_Ev d 15 57 lv (.int x :: st) M Q ↔ (if x = 0 then jx_Ev d 15 76 lv st M Q else jx_Ev d 15 60 lv st M Q)) ∧
  (∀ (d : Nat) (lv : List (Option Value)) (st : List Value) (M : jx_M) (Q : jx_Po), jx_Ev d 15 60 lv st M Q ↔ jx_Ev d 15 61 lv (.int 0 :: st) M Q) ∧
  (∀ (d : Nat) (st : List Value) (M : jx_M) (Q : jx_Po) (l0 l1 l2 l3 l5 : Option Value) (x : Int32), jx_Ev d 15 61 [l0, l1, l2, l3, some (.int x), l5] st M Q ↔ jx_Ev d 15 63 [l0, l1, l2, l3, some (.int x), l5] (.int x :: st) M Q) ∧
  (∀ (d : Nat) (st : List Value) (M : jx_M) (Q : jx_Po) (l0 l2 l3 l4 l5 : Option Value) (x : Nat), jx_Ev d 15 63 [l0, some (.ref x), l2, l3, l4, l5] st M Q ↔ jx_Ev d 15 64 [l0, some (.ref x), l2, l3, l4, l5] (.ref x :: st) M Q) ∧
  (∀ (d : Nat) (lv : List (Option Value)) (st : List Value) (M : jx_M) (Q : jx_Po) (k : Nat) (hk : jx_cl k = 1), jx_Ev d 15 64 lv (.ref k :: st) M Q ↔ jx_Ev d 15 67 lv (.ref (k + 1) :: st) M Q) ∧
  (∀ (d : Nat) (st : List Value) (M : jx_M) (Q : jx_Po) (l0 l1 l3 l4 l5 : Option Value) (x : Int32), jx_Ev d 15 67 [l0, l1, some (.int x), l3, l4, l5] st M Q ↔ jx_Ev d 15 68 [l0, l1, some (.int x), l3, l4, l5] (.int x :: st) M Q) ∧
  (∀ (d : Nat) (lv : List (Option Value)) (st : List Value) (M : jx_M) (Q : jx_Po) (x : Int32) (a : Nat) (ha : jx_cl a = 9), jx_Ev d 15 68 lv (.int x :: .ref a :: st) M Q ↔ (vp_in x (jx_sz a) ∧ jx_Ev d 15 69 lv (.int (M a x.toNatClampNeg) :: st) M Q)) ∧
  (∀ (d : Nat) (lv : List (Option Value)) (st : List Value) (M : jx_M) (Q : jx_Po) (x z : Int32), jx_Ev d 15 69 lv (.int z :: .int x :: st) M Q ↔ jx_Ev d 15 70 lv (.int (x - z) :: st) M Q) ∧
  (∀ (d : Nat) (lv : List (Option Value)) (M : jx_M) (Q : jx_Po) (a0 : Int32) (a1 : Int32), jx_Ev (d + 1) 15 70 lv [.int a0, .int a1] M Q ↔ jx_Ev (d + 1) 15 73 lv (.int (if a1 < a0 then a0 else a1) :: []) M Q) ∧
  (∀ (d : Nat) (lv : List (Option Value)) (st : List Value) (M : jx_M) (Q : jx_Po), jx_Ev d 15 73 lv st M Q ↔ jx_Ev d 15 77 lv st M Q) ∧
  (∀ (d : Nat) (lv : List (Option Value)) (st : List Value) (M : jx_M) (Q : jx_Po), jx_Ev d 15 76 lv st M Q ↔ jx_Ev d 15 77 lv (.int 0 :: st) M Q) ∧
  (∀ (d : Nat) (lv : List (Option Value)) (M : jx_M) (Q : jx_Po) (x : Int32), jx_Ev d 15 77 lv [.int x] M Q ↔ Q [.int x] M) := by
  refine ⟨?_, ?_, ?_, ?_, ?_, ?_, ?_, ?_, ?_, ?_, ?_, ?_, ?_, ?_, ?_, ?_, ?_, ?_, ?_, ?_, ?_, ?_, ?_, ?_, ?_, ?_, ?_, ?_, ?_, ?_, ?_, ?_, ?_, ?_, ?_, ?_, ?_, ?_, ?_, ?_, ?_⟩
  · exact fun d lv st M Q => jx_ev_st (jx_fok (by decide +kernel : decode (jx_mb 15) 0 = .ok (.iconst 0, 1))) rfl rfl rfl
  · exact fun d st M Q l0 l1 l2 l3 l4 l5 x => jx_ev_st (jx_fok (by decide +kernel : decode (jx_mb 15) 1 = .ok (.istore 4, 2))) rfl rfl rfl
  · exact fun d lv st M Q => jx_ev_st (jx_fok (by decide +kernel : decode (jx_mb 15) 3 = .ok (.iconst 0, 1))) rfl rfl rfl
  · exact fun d st M Q l0 l1 l2 l3 l4 l5 x => jx_ev_st (jx_fok (by decide +kernel : decode (jx_mb 15) 4 = .ok (.istore 5, 2))) rfl rfl rfl
  · exact fun d lv st M Q => jx_ev_st (jx_fok (by decide +kernel : decode (jx_mb 15) 8 = .ok (.bipush 6, 2))) rfl rfl rfl
  · exact fun d lv st M Q x z => jx_k_b2 (jx_fok (by decide +kernel : decode (jx_mb 15) 10 = .ok (.if_icmp .ge 42, 3))) rfl jx_hGe
  · exact fun d st M Q l0 l2 l3 l4 l5 x => jx_ev_st (jx_fok (by decide +kernel : decode (jx_mb 15) 13 = .ok (.aload_n 1, 1))) rfl rfl rfl
  · exact fun d st M Q l0 l1 l2 l3 l4 x => jx_ev_st (jx_fok (by decide +kernel : decode (jx_mb 15) 14 = .ok (.iload 5, 2))) rfl rfl rfl
  · exact fun d st M Q l0 l1 l3 l4 l5 x => jx_ev_st (jx_fok (by decide +kernel : decode (jx_mb 15) 16 = .ok (.iload_n 2, 1))) rfl rfl rfl
  · exact fun d lv M Q a0 a1 a2 hk => jx_ev_ci (jx_fok (by decide +kernel : decode (jx_mb 15) 17 = .ok (.invokevirtual 31, 3))) rfl (jx_ccV (As := [.int a1, .int a0]) (rest := []) rfl rfl rfl hk rfl rfl) (by decide)
  · exact fun d lv st M Q x => jx_k_b1 (jx_fok (by decide +kernel : decode (jx_mb 15) 20 = .ok (.ifCond .eq 26, 3))) rfl jx_hEq
  · exact fun d st M Q l1 l2 l3 l4 l5 x => jx_ev_st (jx_fok (by decide +kernel : decode (jx_mb 15) 23 = .ok (.aload_n 0, 1))) rfl rfl rfl
  · exact fun d lv st M Q => jx_k_gf (jx_fok (by decide +kernel : decode (jx_mb 15) 24 = .ok (.getfield 9, 3))) rfl rfl rfl
  · exact fun d st M Q l0 l1 l2 l3 l4 x => jx_ev_st (jx_fok (by decide +kernel : decode (jx_mb 15) 27 = .ok (.iload 5, 2))) rfl rfl rfl
  · exact fun d lv st M Q x a ha => jx_k_al (jx_fok (by decide +kernel : decode (jx_mb 15) 29 = .ok (.iaload, 1))) ha
  · exact fun d st M Q l0 l1 l2 l4 l5 x => jx_ev_st (jx_fok (by decide +kernel : decode (jx_mb 15) 30 = .ok (.iload_n 3, 1))) rfl rfl rfl
  · exact fun d lv st M Q x z => jx_k_b2n (jx_fok (by decide +kernel : decode (jx_mb 15) 31 = .ok (.if_icmp .ne 15, 3))) rfl jx_hNe
  · exact fun d st M Q l0 l1 l2 l3 l5 x => jx_ev_st (jx_fok (by decide +kernel : decode (jx_mb 15) 34 = .ok (.iload 4, 2))) rfl rfl rfl
  · exact fun d st M Q l0 l2 l3 l4 l5 x => jx_ev_st (jx_fok (by decide +kernel : decode (jx_mb 15) 36 = .ok (.aload_n 1, 1))) rfl rfl rfl
  · exact fun d st M Q l0 l1 l2 l3 l4 x => jx_ev_st (jx_fok (by decide +kernel : decode (jx_mb 15) 37 = .ok (.iload 5, 2))) rfl rfl rfl
  · exact fun d st M Q l0 l1 l2 l4 l5 x => jx_ev_st (jx_fok (by decide +kernel : decode (jx_mb 15) 39 = .ok (.iload_n 3, 1))) rfl rfl rfl
  · exact fun d lv M Q a0 a1 a2 a3 hk => jx_ev_ci (jx_fok (by decide +kernel : decode (jx_mb 15) 40 = .ok (.invokevirtual 35, 3))) rfl (jx_ccV (As := [.int a1, .int a0]) (rest := [.int a3]) rfl rfl rfl hk rfl rfl) (by decide)
  · exact fun d lv st M Q x z => jx_ev_st (jx_fok (by decide +kernel : decode (jx_mb 15) 43 = .ok (.iadd, 1))) rfl rfl rfl
  · exact fun d st M Q l0 l1 l2 l3 l4 l5 x => jx_ev_st (jx_fok (by decide +kernel : decode (jx_mb 15) 44 = .ok (.istore 4, 2))) rfl rfl rfl
  · exact fun d st M Q l0 l1 l2 l3 l4 x => jx_ev_st (jx_fok (by decide +kernel : decode (jx_mb 15) 46 = .ok (.iinc 5 1, 3))) rfl rfl rfl
  · exact fun d lv st M Q => jx_k_goto (jx_fok (by decide +kernel : decode (jx_mb 15) 49 = .ok (.goto (-43), 3))) rfl
  · exact fun d st M Q l0 l2 l3 l4 l5 x => jx_ev_st (jx_fok (by decide +kernel : decode (jx_mb 15) 52 = .ok (.aload_n 1, 1))) rfl rfl rfl
  · exact fun d st M Q l0 l1 l3 l4 l5 x => jx_ev_st (jx_fok (by decide +kernel : decode (jx_mb 15) 53 = .ok (.iload_n 2, 1))) rfl rfl rfl
  · exact fun d lv M Q a0 a1 hk => jx_ev_ci (jx_fok (by decide +kernel : decode (jx_mb 15) 54 = .ok (.invokevirtual 39, 3))) rfl (jx_ccV (As := [.int a0]) (rest := []) rfl rfl rfl hk rfl rfl) (by decide)
  · exact fun d lv st M Q x => jx_k_b1 (jx_fok (by decide +kernel : decode (jx_mb 15) 57 = .ok (.ifCond .eq 19, 3))) rfl jx_hEq
  · exact fun d lv st M Q => jx_ev_st (jx_fok (by decide +kernel : decode (jx_mb 15) 60 = .ok (.iconst 0, 1))) rfl rfl rfl
  · exact fun d st M Q l0 l1 l2 l3 l5 x => jx_ev_st (jx_fok (by decide +kernel : decode (jx_mb 15) 61 = .ok (.iload 4, 2))) rfl rfl rfl
  · exact fun d st M Q l0 l2 l3 l4 l5 x => jx_ev_st (jx_fok (by decide +kernel : decode (jx_mb 15) 63 = .ok (.aload_n 1, 1))) rfl rfl rfl
  · exact fun d lv st M Q k hk => jx_k_gf (jx_fok (by decide +kernel : decode (jx_mb 15) 64 = .ok (.getfield 43, 3))) rfl hk rfl
  · exact fun d st M Q l0 l1 l3 l4 l5 x => jx_ev_st (jx_fok (by decide +kernel : decode (jx_mb 15) 67 = .ok (.iload_n 2, 1))) rfl rfl rfl
  · exact fun d lv st M Q x a ha => jx_k_al (jx_fok (by decide +kernel : decode (jx_mb 15) 68 = .ok (.iaload, 1))) ha
  · exact fun d lv st M Q x z => jx_ev_st (jx_fok (by decide +kernel : decode (jx_mb 15) 69 = .ok (.isub, 1))) rfl rfl rfl
  · exact fun d lv M Q a0 a1 => jx_k_max (jx_fok (by decide +kernel : decode (jx_mb 15) 70 = .ok (.invokestatic 46, 3))) rfl rfl (Nat.le_of_ble_eq_true rfl)
  · exact fun d lv st M Q => jx_k_goto (jx_fok (by decide +kernel : decode (jx_mb 15) 73 = .ok (.goto 4, 3))) rfl
  · exact fun d lv st M Q => jx_ev_st (jx_fok (by decide +kernel : decode (jx_mb 15) 76 = .ok (.iconst 0, 1))) rfl rfl rfl
  · exact fun d lv M Q x => jx_k_ri (jx_fok (by decide +kernel : decode (jx_mb 15) 77 = .ok (.ireturn, 1))) rfl
theorem eX2_harmIn_6 (d : Nat) (st : List Value) (M : jx_M) (Q : jx_Po) (l0 l1 l2 l3 l4 : Option Value) (x : Int32) : jx_Ev d 15 6 [l0, l1, l2, l3, l4, some (.int x)] st M Q ↔ jx_Ev d 15 8 [l0, l1, l2, l3, l4, some (.int x)] (.int x :: st) M Q := jx_ev_st (jx_fok (by decide +kernel : decode (jx_mb 15) 6 = .ok (.iload 5, 2))) rfl rfl rfl
theorem kX2_harmIn (d : Nat) (M : jx_M) (q : Int32 → jx_M → Prop) (a0 a1 a2 a3 : Value) : jx_I d 15 [a0, a1, a2, a3] M q ↔ jx_Ev d 15 0 [some a0, some a1, some a2, some a3, none, none] [] M (jx_qI q) := Iff.rfl
set_option maxRecDepth 100000 in
theorem eX2_harmToAll :
  (∀ (d : Nat) (lv : List (Option Value)) (st : List Value) (M : jx_M) (Q : jx_Po), jx_Ev d 16 0 lv st M Q ↔ jx_Ev d 16 1 lv (.int 0 :: st) M Q) ∧
  (∀ (d : Nat) (st : List Value) (M : jx_M) (Q : jx_Po) (l0 l1 l2 l3 : Option Value) (x : Int32), jx_Ev d 16 1 [l0, l1, l2, l3] (.int x :: st) M Q ↔ jx_Ev d 16 2 [l0, l1, some (.int x), l3] st M Q) ∧
  (∀ (d : Nat) (lv : List (Option Value)) (st : List Value) (M : jx_M) (Q : jx_Po), jx_Ev d 16 2 lv st M Q ↔ jx_Ev d 16 3 lv (.int 0 :: st) M Q) ∧
  (∀ (d : Nat) (st : List Value) (M : jx_M) (Q : jx_Po) (l0 l1 l2 l3 : Option Value) (x : Int32), jx_Ev d 16 3 [l0, l1, l2, l3] (.int x :: st) M Q ↔ jx_Ev d 16 4 [l0, l1, l2, some (.int x)] st M Q) ∧
  (∀ (d : Nat) (lv : List (Option Value)) (st : List Value) (M : jx_M) (Q : jx_Po), jx_Ev d 16 5 lv st M Q ↔ jx_Ev d 16 6 lv (.int 5 :: st) M Q) ∧
  (∀ (d : Nat) (lv : List (Option Value)) (st : List Value) (M : jx_M) (Q : jx_Po) (x z : Int32), jx_Ev d 16 6 lv (.int z :: .int x :: st) M Q ↔ (if z ≤ x then jx_Ev d 16 24 lv st M Q else jx_Ev d 16 9 lv st M Q)) ∧
  (∀ (d : Nat) (st : List Value) (M : jx_M) (Q : jx_Po) (l0 l1 l3 : Option Value) (x : Int32), jx_Ev d 16 9 [l0, l1, some (.int x), l3] st M Q ↔ jx_Ev d 16 10 [l0, l1, some (.int x), l3] (.int x :: st) M Q) ∧
  (∀ (d : Nat) (st : List Value) (M : jx_M) (Q : jx_Po) (l1 l2 l3 : Option Value) (x : Nat), jx_Ev d 16 10 [some (.ref x), l1, l2, l3] st M Q ↔ jx_Ev d 16 11 [some (.ref x), l1, l2, l3] (.ref x :: st) M Q) ∧
  (∀ (d : Nat) (st : List Value) (M : jx_M) (Q : jx_Po) (l0 l2 l3 : Option Value) (x : Nat), jx_Ev d 16 11 [l0, some (.ref x), l2, l3] st M Q ↔ jx_Ev d 16 12 [l0, some (.ref x), l2, l3] (.ref x :: st) M Q) ∧
  (∀ (d : Nat) (st : List Value) (M : jx_M) (Q : jx_Po) (l0 l1 l2 : Option Value) (x : Int32), jx_Ev d 16 12 [l0, l1, l2, some (.int x)] st M Q ↔ jx_Ev d 16 13 [l0, l1, l2, some (.int x)] (.int x :: st) M Q) ∧
  (∀ (d : Nat) (lv : List (Option Value)) (M : jx_M) (Q : jx_Po) (a0 : Int32) (a1 : Nat) (a3 : Int32), jx_Ev (d + 1) 16 13 lv [.int a0, .ref a1, .ref 7, .int a3] M Q ↔ jx_I d 14 [.ref 7, .ref a1, .int a0] M (fun x M => jx_Ev (d + 1) 16 16 lv (.int x :: [.int a3]) M Q)) ∧
  (∀ (d : Nat) (lv : List (Option Value)) (st : List Value) (M : jx_M) (Q : jx_Po) (x z : Int32), jx_Ev d 16 16 lv (.int z :: .int x :: st) M Q ↔ jx_Ev d 16 17 lv (.int (x + z) :: st) M Q) ∧
  (∀ (d : Nat) (st : List Value) (M : jx_M) (Q : jx_Po) (l0 l1 l2 l3 : Option Value) (x : Int32), jx_Ev d 16 17 [l0, l1, l2, l3] (.int x :: st) M Q ↔ jx_Ev d 16 18 [l0, l1, some (.int x), l3] st M Q) ∧
  (∀ (d : Nat) (st : List Value) (M : jx_M) (Q : jx_Po) (l0 l1 l2 : Option Value) (x : Int32), jx_Ev d 16 18 [l0, l1, l2, some (.int x)] st M Q ↔ jx_Ev d 16 21 [l0, l1, l2, some (.int (x + 1))] st M Q) ∧
  (∀ (d : Nat) (lv : List (Option Value)) (st : List Value) (M : jx_M) (Q : jx_Po), jx_Ev d 16 21 lv st M Q ↔ jx_Ev d 16 4 lv st M Q) ∧
  (∀ (d : Nat) (st : List Value) (M : jx_M) (Q : jx_Po) (l0 l1 l3 : Option Value) (x : Int32), jx_Ev d 16 24 [l0, l1, some (.int x), l3] st M Q ↔ jx_Ev d 16 25 [l0, l1, some (.int x), l3] (.int x :: st) M Q) ∧
  (∀ (d : Nat) (lv : List (Option Value)) (M : jx_M) (Q : jx_Po) (x : Int32), jx_Ev d 16 25 lv [.int x] M Q ↔ Q [.int x] M) := by
  refine ⟨?_, ?_, ?_, ?_, ?_, ?_, ?_, ?_, ?_, ?_, ?_, ?_, ?_, ?_, ?_, ?_, ?_⟩
  · exact fun d lv st M Q => jx_ev_st (jx_fok (by decide +kernel : decode (jx_mb 16) 0 = .ok (.iconst 0, 1))) rfl rfl rfl
  · exact fun d st M Q l0 l1 l2 l3 x => jx_ev_st (jx_fok (by decide +kernel : decode (jx_mb 16) 1 = .ok (.istore_n 2, 1))) rfl rfl rfl
  · exact fun d lv st M Q => jx_ev_st (jx_fok (by decide +kernel : decode (jx_mb 16) 2 = .ok (.iconst 0, 1))) rfl rfl rfl
  · exact fun d st M Q l0 l1 l2 l3 x => jx_ev_st (jx_fok (by decide +kernel : decode (jx_mb 16) 3 = .ok (.istore_n 3, 1))) rfl rfl rfl
  · exact fun d lv st M Q => jx_ev_st (jx_fok (by decide +kernel : decode (jx_mb 16) 5 = .ok (.iconst 5, 1))) rfl rfl rfl
  · exact fun d lv st M Q x z => jx_k_b2 (jx_fok (by decide +kernel : decode (jx_mb 16) 6 = .ok (.if_icmp .ge 18, 3))) rfl jx_hGe
  · exact fun d st M Q l0 l1 l3 x => jx_ev_st (jx_fok (by decide +kernel : decode (jx_mb 16) 9 = .ok (.iload_n 2, 1))) rfl rfl rfl
  · exact fun d st M Q l1 l2 l3 x => jx_ev_st (jx_fok (by decide +kernel : decode (jx_mb 16) 10 = .ok (.aload_n 0, 1))) rfl rfl rfl
  · exact fun d st M Q l0 l2 l3 x => jx_ev_st (jx_fok (by decide +kernel : decode (jx_mb 16) 11 = .ok (.aload_n 1, 1))) rfl rfl rfl
  · exact fun d st M Q l0 l1 l2 x => jx_ev_st (jx_fok (by decide +kernel : decode (jx_mb 16) 12 = .ok (.iload_n 3, 1))) rfl rfl rfl
  · exact fun d lv M Q a0 a1 a3 => jx_ev_ci (jx_fok (by decide +kernel : decode (jx_mb 16) 13 = .ok (.invokevirtual 51, 3))) rfl (jx_ccV (As := [.ref a1, .int a0]) (rest := [.int a3]) rfl rfl rfl rfl rfl rfl) (by decide)
  · exact fun d lv st M Q x z => jx_ev_st (jx_fok (by decide +kernel : decode (jx_mb 16) 16 = .ok (.iadd, 1))) rfl rfl rfl
  · exact fun d st M Q l0 l1 l2 l3 x => jx_ev_st (jx_fok (by decide +kernel : decode (jx_mb 16) 17 = .ok (.istore_n 2, 1))) rfl rfl rfl
  · exact fun d st M Q l0 l1 l2 x => jx_ev_st (jx_fok (by decide +kernel : decode (jx_mb 16) 18 = .ok (.iinc 3 1, 3))) rfl rfl rfl
  · exact fun d lv st M Q => jx_k_goto (jx_fok (by decide +kernel : decode (jx_mb 16) 21 = .ok (.goto (-17), 3))) rfl
  · exact fun d st M Q l0 l1 l3 x => jx_ev_st (jx_fok (by decide +kernel : decode (jx_mb 16) 24 = .ok (.iload_n 2, 1))) rfl rfl rfl
  · exact fun d lv M Q x => jx_k_ri (jx_fok (by decide +kernel : decode (jx_mb 16) 25 = .ok (.ireturn, 1))) rfl
theorem eX2_harmToAll_4 (d : Nat) (st : List Value) (M : jx_M) (Q : jx_Po) (l0 l1 l2 : Option Value) (x : Int32) : jx_Ev d 16 4 [l0, l1, l2, some (.int x)] st M Q ↔ jx_Ev d 16 5 [l0, l1, l2, some (.int x)] (.int x :: st) M Q := jx_ev_st (jx_fok (by decide +kernel : decode (jx_mb 16) 4 = .ok (.iload_n 3, 1))) rfl rfl rfl
theorem kX2_harmToAll (d : Nat) (M : jx_M) (q : Int32 → jx_M → Prop) (a0 a1 : Value) : jx_I d 16 [a0, a1] M q ↔ jx_Ev d 16 0 [some a0, some a1, none, none] [] M (jx_qI q) := Iff.rfl
set_option maxRecDepth 100000 in
theorem eX2_mostHarmed :
  (∀ (d : Nat) (lv : List (Option Value)) (st : List Value) (M : jx_M) (Q : jx_Po), jx_Ev d 17 0 lv st M Q ↔ jx_Ev d 17 1 lv (.int 0 :: st) M Q) ∧
  (∀ (d : Nat) (st : List Value) (M : jx_M) (Q : jx_Po) (l0 l1 l2 l3 l4 l5 : Option Value) (x : Int32), jx_Ev d 17 1 [l0, l1, l2, l3, l4, l5] (.int x :: st) M Q ↔ jx_Ev d 17 2 [l0, l1, some (.int x), l3, l4, l5] st M Q) ∧
  (∀ (d : Nat) (lv : List (Option Value)) (st : List Value) (M : jx_M) (Q : jx_Po), jx_Ev d 17 2 lv st M Q ↔ jx_Ev d 17 4 lv (.int (-9) :: st) M Q) ∧
  (∀ (d : Nat) (st : List Value) (M : jx_M) (Q : jx_Po) (l0 l1 l2 l3 l4 l5 : Option Value) (x : Int32), jx_Ev d 17 4 [l0, l1, l2, l3, l4, l5] (.int x :: st) M Q ↔ jx_Ev d 17 5 [l0, l1, l2, some (.int x), l4, l5] st M Q) ∧
  (∀ (d : Nat) (lv : List (Option Value)) (st : List Value) (M : jx_M) (Q : jx_Po), jx_Ev d 17 5 lv st M Q ↔ jx_Ev d 17 6 lv (.int 0 :: st) M Q) ∧
  (∀ (d : Nat) (st : List Value) (M : jx_M) (Q : jx_Po) (l0 l1 l2 l3 l4 l5 : Option Value) (x : Int32), jx_Ev d 17 6 [l0, l1, l2, l3, l4, l5] (.int x :: st) M Q ↔ jx_Ev d 17 8 [l0, l1, l2, l3, some (.int x), l5] st M Q) ∧
  (∀ (d : Nat) (lv : List (Option Value)) (st : List Value) (M : jx_M) (Q : jx_Po), jx_Ev d 17 10 lv st M Q ↔ jx_Ev d 17 11 lv (.int 5 :: st) M Q) ∧
  (∀ (d : Nat) (lv : List (Option Value)) (st : List Value) (M : jx_M) (Q : jx_Po) (x z : Int32), jx_Ev d 17 11 lv (.int z :: .int x :: st) M Q ↔ (if z ≤ x then jx_Ev d 17 41 lv st M Q else jx_Ev d 17 14 lv st M Q)) ∧
  (∀ (d : Nat) (st : List Value) (M : jx_M) (Q : jx_Po) (l1 l2 l3 l4 l5 : Option Value) (x : Nat), jx_Ev d 17 14 [some (.ref x), l1, l2, l3, l4, l5] st M Q ↔ jx_Ev d 17 15 [some (.ref x), l1, l2, l3, l4, l5] (.ref x :: st) M Q) ∧
  (∀ (d : Nat) (st : List Value) (M : jx_M) (Q : jx_Po) (l0 l2 l3 l4 l5 : Option Value) (x : Nat), jx_Ev d 17 15 [l0, some (.ref x), l2, l3, l4, l5] st M Q ↔ jx_Ev d 17 16 [l0, some (.ref x), l2, l3, l4, l5] (.ref x :: st) M Q) ∧
  (∀ (d : Nat) (st : List Value) (M : jx_M) (Q : jx_Po) (l0 l1 l2 l3 l5 : Option Value) (x : Int32), jx_Ev d 17 16 [l0, l1, l2, l3, some (.int x), l5] st M Q ↔ jx_Ev d 17 18 [l0, l1, l2, l3, some (.int x), l5] (.int x :: st) M Q) ∧
  (∀ (d : Nat) (lv : List (Option Value)) (M : jx_M) (Q : jx_Po) (a0 : Int32) (a1 : Nat), jx_Ev (d + 1) 17 18 lv [.int a0, .ref a1, .ref 7] M Q ↔ jx_I d 14 [.ref 7, .ref a1, .int a0] M (fun x M => jx_Ev (d + 1) 17 21 lv (.int x :: []) M Q)) ∧
  (∀ (d : Nat) (st : List Value) (M : jx_M) (Q : jx_Po) (l0 l1 l2 l3 l4 l5 : Option Value) (x : Int32), jx_Ev d 17 21 [l0, l1, l2, l3, l4, l5] (.int x :: st) M Q ↔ jx_Ev d 17 23 [l0, l1, l2, l3, l4, some (.int x)] st M Q) ∧
  (∀ (d : Nat) (st : List Value) (M : jx_M) (Q : jx_Po) (l0 l1 l2 l3 l4 : Option Value) (x : Int32), jx_Ev d 17 23 [l0, l1, l2, l3, l4, some (.int x)] st M Q ↔ jx_Ev d 17 25 [l0, l1, l2, l3, l4, some (.int x)] (.int x :: st) M Q) ∧
  (∀ (d : Nat) (st : List Value) (M : jx_M) (Q : jx_Po) (l0 l1 l3 l4 l5 : Option Value) (x : Int32), jx_Ev d 17 25 [l0, l1, some (.int x), l3, l4, l5] st M Q ↔ jx_Ev d 17 26 [l0, l1, some (.int x), l3, l4, l5] (.int x :: st) M Q) ∧
  (∀ (d : Nat) (lv : List (Option Value)) (st : List Value) (M : jx_M) (Q : jx_Po) (x z : Int32), jx_Ev d 17 26 lv (.int z :: .int x :: st) M Q ↔ (if x ≤ z then jx_Ev d 17 35 lv st M Q else jx_Ev d 17 29 lv st M Q)) ∧
  (∀ (d : Nat) (st : List Value) (M : jx_M) (Q : jx_Po) (l0 l1 l2 l3 l4 : Option Value) (x : Int32), jx_Ev d 17 29 [l0, l1, l2, l3, l4, some (.int x)] st M Q ↔ jx_Ev d 17 31 [l0, l1, l2, l3, l4, some (.int x)] (.int x :: st) M Q) ∧
  (∀ (d : Nat) (st : List Value) (M : jx_M) (Q : jx_Po) (l0 l1 l2 l3 l4 l5 : Option Value) (x : Int32), jx_Ev d 17 31 [l0, l1, l2, l3, l4, l5] (.int x :: st) M Q ↔ jx_Ev d 17 32 [l0, l1, some (.int x), l3, l4, l5] st M Q) ∧
  (∀ (d : Nat) (st : List Value) (M : jx_M) (Q : jx_Po) (l0 l1 l2 l3 l5 : Option Value) (x : Int32), jx_Ev d 17 32 [l0, l1, l2, l3, some (.int x), l5] st M Q ↔ jx_Ev d 17 34 [l0, l1, l2, l3, some (.int x), l5] (.int x :: st) M Q) ∧
  (∀ (d : Nat) (st : List Value) (M : jx_M) (Q : jx_Po) (l0 l1 l2 l3 l4 l5 : Option Value) (x : Int32), jx_Ev d 17 34 [l0, l1, l2, l3, l4, l5] (.int x :: st) M Q ↔ jx_Ev d 17 35 [l0, l1, l2, some (.int x), l4, l5] st M Q) ∧
  (∀ (d : Nat) (st : List Value) (M : jx_M) (Q : jx_Po) (l0 l1 l2 l3 l5 : Option Value) (x : Int32), jx_Ev d 17 35 [l0, l1, l2, l3, some (.int x), l5] st M Q ↔ jx_Ev d 17 38 [l0, l1, l2, l3, some (.int (x + 1)), l5] st M Q) ∧
  (∀ (d : Nat) (lv : List (Option Value)) (st : List Value) (M : jx_M) (Q : jx_Po), jx_Ev d 17 38 lv st M Q ↔ jx_Ev d 17 8 lv st M Q) ∧
  (∀ (d : Nat) (st : List Value) (M : jx_M) (Q : jx_Po) (l0 l1 l2 l4 l5 : Option Value) (x : Int32), jx_Ev d 17 41 [l0, l1, l2, some (.int x), l4, l5] st M Q ↔ jx_Ev d 17 42 [l0, l1, l2, some (.int x), l4, l5] (.int x :: st) M Q) ∧
  (∀ (d : Nat) (lv : List (Option Value)) (M : jx_M) (Q : jx_Po) (x : Int32), jx_Ev d 17 42 lv [.int x] M Q ↔ Q [.int x] M) := by
  refine ⟨?_, ?_, ?_, ?_, ?_, ?_, ?_, ?_, ?_, ?_, ?_, ?_, ?_, ?_, ?_, ?_, ?_, ?_, ?_, ?_, ?_, ?_, ?_, ?_⟩
  · exact fun d lv st M Q => jx_ev_st (jx_fok (by decide +kernel : decode (jx_mb 17) 0 = .ok (.iconst 0, 1))) rfl rfl rfl
  · exact fun d st M Q l0 l1 l2 l3 l4 l5 x => jx_ev_st (jx_fok (by decide +kernel : decode (jx_mb 17) 1 = .ok (.istore_n 2, 1))) rfl rfl rfl
  · exact fun d lv st M Q => jx_ev_st (jx_fok (by decide +kernel : decode (jx_mb 17) 2 = .ok (.bipush (-9), 2))) rfl rfl rfl
  · exact fun d st M Q l0 l1 l2 l3 l4 l5 x => jx_ev_st (jx_fok (by decide +kernel : decode (jx_mb 17) 4 = .ok (.istore_n 3, 1))) rfl rfl rfl
  · exact fun d lv st M Q => jx_ev_st (jx_fok (by decide +kernel : decode (jx_mb 17) 5 = .ok (.iconst 0, 1))) rfl rfl rfl
  · exact fun d st M Q l0 l1 l2 l3 l4 l5 x => jx_ev_st (jx_fok (by decide +kernel : decode (jx_mb 17) 6 = .ok (.istore 4, 2))) rfl rfl rfl
  · exact fun d lv st M Q => jx_ev_st (jx_fok (by decide +kernel : decode (jx_mb 17) 10 = .ok (.iconst 5, 1))) rfl rfl rfl
  · exact fun d lv st M Q x z => jx_k_b2 (jx_fok (by decide +kernel : decode (jx_mb 17) 11 = .ok (.if_icmp .ge 30, 3))) rfl jx_hGe
  · exact fun d st M Q l1 l2 l3 l4 l5 x => jx_ev_st (jx_fok (by decide +kernel : decode (jx_mb 17) 14 = .ok (.aload_n 0, 1))) rfl rfl rfl
  · exact fun d st M Q l0 l2 l3 l4 l5 x => jx_ev_st (jx_fok (by decide +kernel : decode (jx_mb 17) 15 = .ok (.aload_n 1, 1))) rfl rfl rfl
  · exact fun d st M Q l0 l1 l2 l3 l5 x => jx_ev_st (jx_fok (by decide +kernel : decode (jx_mb 17) 16 = .ok (.iload 4, 2))) rfl rfl rfl
  · exact fun d lv M Q a0 a1 => jx_ev_ci (jx_fok (by decide +kernel : decode (jx_mb 17) 18 = .ok (.invokevirtual 51, 3))) rfl (jx_ccV (As := [.ref a1, .int a0]) (rest := []) rfl rfl rfl rfl rfl rfl) (by decide)
  · exact fun d st M Q l0 l1 l2 l3 l4 l5 x => jx_ev_st (jx_fok (by decide +kernel : decode (jx_mb 17) 21 = .ok (.istore 5, 2))) rfl rfl rfl
  · exact fun d st M Q l0 l1 l2 l3 l4 x => jx_ev_st (jx_fok (by decide +kernel : decode (jx_mb 17) 23 = .ok (.iload 5, 2))) rfl rfl rfl
  · exact fun d st M Q l0 l1 l3 l4 l5 x => jx_ev_st (jx_fok (by decide +kernel : decode (jx_mb 17) 25 = .ok (.iload_n 2, 1))) rfl rfl rfl
  · exact fun d lv st M Q x z => jx_k_b2 (jx_fok (by decide +kernel : decode (jx_mb 17) 26 = .ok (.if_icmp .le 9, 3))) rfl jx_hLe
  · exact fun d st M Q l0 l1 l2 l3 l4 x => jx_ev_st (jx_fok (by decide +kernel : decode (jx_mb 17) 29 = .ok (.iload 5, 2))) rfl rfl rfl
  · exact fun d st M Q l0 l1 l2 l3 l4 l5 x => jx_ev_st (jx_fok (by decide +kernel : decode (jx_mb 17) 31 = .ok (.istore_n 2, 1))) rfl rfl rfl
  · exact fun d st M Q l0 l1 l2 l3 l5 x => jx_ev_st (jx_fok (by decide +kernel : decode (jx_mb 17) 32 = .ok (.iload 4, 2))) rfl rfl rfl
  · exact fun d st M Q l0 l1 l2 l3 l4 l5 x => jx_ev_st (jx_fok (by decide +kernel : decode (jx_mb 17) 34 = .ok (.istore_n 3, 1))) rfl rfl rfl
  · exact fun d st M Q l0 l1 l2 l3 l5 x => jx_ev_st (jx_fok (by decide +kernel : decode (jx_mb 17) 35 = .ok (.iinc 4 1, 3))) rfl rfl rfl
  · exact fun d lv st M Q => jx_k_goto (jx_fok (by decide +kernel : decode (jx_mb 17) 38 = .ok (.goto (-30), 3))) rfl
  · exact fun d st M Q l0 l1 l2 l4 l5 x => jx_ev_st (jx_fok (by decide +kernel : decode (jx_mb 17) 41 = .ok (.iload_n 3, 1))) rfl rfl rfl
  · exact fun d lv M Q x => jx_k_ri (jx_fok (by decide +kernel : decode (jx_mb 17) 42 = .ok (.ireturn, 1))) rfl
theorem eX2_mostHarmed_8 (d : Nat) (st : List Value) (M : jx_M) (Q : jx_Po) (l0 l1 l2 l3 l5 : Option Value) (x : Int32) : jx_Ev d 17 8 [l0, l1, l2, l3, some (.int x), l5] st M Q ↔ jx_Ev d 17 10 [l0, l1, l2, l3, some (.int x), l5] (.int x :: st) M Q := jx_ev_st (jx_fok (by decide +kernel : decode (jx_mb 17) 8 = .ok (.iload 4, 2))) rfl rfl rfl
theorem kX2_mostHarmed (d : Nat) (M : jx_M) (q : Int32 → jx_M → Prop) (a0 a1 : Value) : jx_I d 17 [a0, a1] M q ↔ jx_Ev d 17 0 [some a0, some a1, none, none, none, none] [] M (jx_qI q) := Iff.rfl
set_option maxRecDepth 100000 in
theorem eX3_add :
  (∀ (d : Nat) (st : List Value) (M : jx_M) (Q : jx_Po) (l1 l2 l3 : Option Value) (x : Nat), jx_Ev d 18 0 [some (.ref x), l1, l2, l3] st M Q ↔ jx_Ev d 18 1 [some (.ref x), l1, l2, l3] (.ref x :: st) M Q) ∧
  (∀ (d : Nat) (lv : List (Option Value)) (st : List Value) (M : jx_M) (Q : jx_Po), jx_Ev d 18 1 lv (.ref 3 :: st) M Q ↔ jx_Ev d 18 4 lv (.int (M 3 3) :: st) M Q) ∧
  (∀ (d : Nat) (lv : List (Option Value)) (st : List Value) (M : jx_M) (Q : jx_Po), jx_Ev d 18 4 lv st M Q ↔ jx_Ev d 18 6 lv (.int 8 :: st) M Q) ∧
  (∀ (d : Nat) (lv : List (Option Value)) (st : List Value) (M : jx_M) (Q : jx_Po) (x z : Int32), jx_Ev d 18 6 lv (.int z :: .int x :: st) M Q ↔ (if x < z then jx_Ev d 18 12 lv st M Q else jx_Ev d 18 9 lv st M Q)) ∧
  (∀ (d : Nat) (lv : List (Option Value)) (st : List Value) (M : jx_M) (Q : jx_Po), jx_Ev d 18 9 lv st M Q ↔ jx_Ev d 18 11 lv (.int (-4) :: st) M Q) ∧
  (∀ (d : Nat) (lv : List (Option Value)) (M : jx_M) (Q : jx_Po) (x : Int32), jx_Ev d 18 11 lv [.int x] M Q ↔ Q [.int x] M) ∧
  (∀ (d : Nat) (st : List Value) (M : jx_M) (Q : jx_Po) (l1 l2 l3 : Option Value) (x : Nat), jx_Ev d 18 12 [some (.ref x), l1, l2, l3] st M Q ↔ jx_Ev d 18 13 [some (.ref x), l1, l2, l3] (.ref x :: st) M Q) ∧
  (∀ (d : Nat) (lv : List (Option Value)) (st : List Value) (M : jx_M) (Q : jx_Po), jx_Ev d 18 13 lv (.ref 3 :: st) M Q ↔ jx_Ev d 18 16 lv (.ref 4 :: st) M Q) ∧
  (∀ (d : Nat) (st : List Value) (M : jx_M) (Q : jx_Po) (l1 l2 l3 : Option Value) (x : Nat), jx_Ev d 18 16 [some (.ref x), l1, l2, l3] st M Q ↔ jx_Ev d 18 17 [some (.ref x), l1, l2, l3] (.ref x :: st) M Q) ∧
  (∀ (d : Nat) (lv : List (Option Value)) (st : List Value) (M : jx_M) (Q : jx_Po), jx_Ev d 18 17 lv (.ref 3 :: st) M Q ↔ jx_Ev d 18 20 lv (.int (M 3 3) :: st) M Q) ∧
  (∀ (d : Nat) (st : List Value) (M : jx_M) (Q : jx_Po) (l0 l2 l3 : Option Value) (x : Int32), jx_Ev d 18 20 [l0, some (.int x), l2, l3] st M Q ↔ jx_Ev d 18 21 [l0, some (.int x), l2, l3] (.int x :: st) M Q) ∧
  (∀ (d : Nat) (lv : List (Option Value)) (st : List Value) (M : jx_M) (Q : jx_Po) (x z : Int32) (a : Nat) (ha : jx_cl a = 9), jx_Ev d 18 21 lv (.int z :: .int x :: .ref a :: st) M Q ↔ (vp_in x (jx_sz a) ∧ jx_Ev d 18 22 lv st (jx_up M a x.toNatClampNeg z) Q)) ∧
  (∀ (d : Nat) (st : List Value) (M : jx_M) (Q : jx_Po) (l1 l2 l3 : Option Value) (x : Nat), jx_Ev d 18 22 [some (.ref x), l1, l2, l3] st M Q ↔ jx_Ev d 18 23 [some (.ref x), l1, l2, l3] (.ref x :: st) M Q) ∧
  (∀ (d : Nat) (lv : List (Option Value)) (st : List Value) (M : jx_M) (Q : jx_Po), jx_Ev d 18 23 lv (.ref 3 :: st) M Q ↔ jx_Ev d 18 26 lv (.ref 5 :: st) M Q) ∧
  (∀ (d : Nat) (st : List Value) (M : jx_M) (Q : jx_Po) (l1 l2 l3 : Option Value) (x : Nat), jx_Ev d 18 26 [some (.ref x), l1, l2, l3] st M Q ↔ jx_Ev d 18 27 [some (.ref x), l1, l2, l3] (.ref x :: st) M Q) ∧
  (∀ (d : Nat) (lv : List (Option Value)) (st : List Value) (M : jx_M) (Q : jx_Po), jx_Ev d 18 27 lv (.ref 3 :: st) M Q ↔ jx_Ev d 18 30 lv (.int (M 3 3) :: st) M Q) ∧
  (∀ (d : Nat) (st : List Value) (M : jx_M) (Q : jx_Po) (l0 l1 l3 : Option Value) (x : Int32), jx_Ev d 18 30 [l0, l1, some (.int x), l3] st M Q ↔ jx_Ev d 18 31 [l0, l1, some (.int x), l3] (.int x :: st) M Q) ∧
  (∀ (d : Nat) (lv : List (Option Value)) (st : List Value) (M : jx_M) (Q : jx_Po) (x z : Int32) (a : Nat) (ha : jx_cl a = 9), jx_Ev d 18 31 lv (.int z :: .int x :: .ref a :: st) M Q ↔ (vp_in x (jx_sz a) ∧ jx_Ev d 18 32 lv st (jx_up M a x.toNatClampNeg z) Q)) ∧
  (∀ (d : Nat) (st : List Value) (M : jx_M) (Q : jx_Po) (l1 l2 l3 : Option Value) (x : Nat), jx_Ev d 18 32 [some (.ref x), l1, l2, l3] st M Q ↔ jx_Ev d 18 33 [some (.ref x), l1, l2, l3] (.ref x :: st) M Q) ∧
  (∀ (d : Nat) (lv : List (Option Value)) (st : List Value) (M : jx_M) (Q : jx_Po), jx_Ev d 18 33 lv (.ref 3 :: st) M Q ↔ jx_Ev d 18 36 lv (.ref 6 :: st) M Q) ∧
  (∀ (d : Nat) (st : List Value) (M : jx_M) (Q : jx_Po) (l1 l2 l3 : Option Value) (x : Nat), jx_Ev d 18 36 [some (.ref x), l1, l2, l3] st M Q ↔ jx_Ev d 18 37 [some (.ref x), l1, l2, l3] (.ref x :: st) M Q) ∧
  (∀ (d : Nat) (lv : List (Option Value)) (st : List Value) (M : jx_M) (Q : jx_Po), jx_Ev d 18 37 lv (.ref 3 :: st) M Q ↔ jx_Ev d 18 40 lv (.int (M 3 3) :: st) M Q) ∧
  (∀ (d : Nat) (st : List Value) (M : jx_M) (Q : jx_Po) (l0 l1 l2 : Option Value) (x : Int32), jx_Ev d 18 40 [l0, l1, l2, some (.int x)] st M Q ↔ jx_Ev d 18 41 [l0, l1, l2, some (.int x)] (.int x :: st) M Q) ∧
  (∀ (d : Nat) (lv : List (Option Value)) (st : List Value) (M : jx_M) (Q : jx_Po) (x z : Int32) (a : Nat) (ha : jx_cl a = 9), jx_Ev d 18 41 lv (.int z :: .int x :: .ref a :: st) M Q ↔ (vp_in x (jx_sz a) ∧ jx_Ev d 18 42 lv st (jx_up M a x.toNatClampNeg z) Q)) ∧
  (∀ (d : Nat) (st : List Value) (M : jx_M) (Q : jx_Po) (l1 l2 l3 : Option Value) (x : Nat), jx_Ev d 18 42 [some (.ref x), l1, l2, l3] st M Q ↔ jx_Ev d 18 43 [some (.ref x), l1, l2, l3] (.ref x :: st) M Q) ∧
  (∀ (d : Nat) (lv : List (Option Value)) (st : List Value) (M : jx_M) (Q : jx_Po) (x : Nat), jx_Ev d 18 43 lv (.ref x :: st) M Q ↔ jx_Ev d 18 44 lv (.ref x :: .ref x :: st) M Q) ∧
  (∀ (d : Nat) (lv : List (Option Value)) (st : List Value) (M : jx_M) (Q : jx_Po), jx_Ev d 18 44 lv (.ref 3 :: st) M Q ↔ jx_Ev d 18 47 lv (.int (M 3 3) :: st) M Q) ∧
  (∀ (d : Nat) (lv : List (Option Value)) (st : List Value) (M : jx_M) (Q : jx_Po), jx_Ev d 18 47 lv st M Q ↔ jx_Ev d 18 48 lv (.int 1 :: st) M Q) ∧
  (∀ (d : Nat) (lv : List (Option Value)) (st : List Value) (M : jx_M) (Q : jx_Po) (x z : Int32), jx_Ev d 18 48 lv (.int z :: .int x :: st) M Q ↔ jx_Ev d 18 49 lv (.int (x + z) :: st) M Q) ∧
  (∀ (d : Nat) (lv : List (Option Value)) (st : List Value) (M : jx_M) (Q : jx_Po) (x : Int32), jx_Ev d 18 49 lv (.int x :: .ref 3 :: st) M Q ↔ jx_Ev d 18 52 lv st (jx_up M 3 3 x) Q) ∧
  (∀ (d : Nat) (st : List Value) (M : jx_M) (Q : jx_Po) (l1 l2 l3 : Option Value) (x : Nat), jx_Ev d 18 52 [some (.ref x), l1, l2, l3] st M Q ↔ jx_Ev d 18 53 [some (.ref x), l1, l2, l3] (.ref x :: st) M Q) ∧
  (∀ (d : Nat) (lv : List (Option Value)) (st : List Value) (M : jx_M) (Q : jx_Po), jx_Ev d 18 53 lv (.ref 3 :: st) M Q ↔ jx_Ev d 18 56 lv (.int (M 3 3) :: st) M Q) ∧
  (∀ (d : Nat) (lv : List (Option Value)) (st : List Value) (M : jx_M) (Q : jx_Po), jx_Ev d 18 56 lv st M Q ↔ jx_Ev d 18 57 lv (.int 1 :: st) M Q) ∧
  (∀ (d : Nat) (lv : List (Option Value)) (st : List Value) (M : jx_M) (Q : jx_Po) (x z : Int32), jx_Ev d 18 57 lv (.int z :: .int x :: st) M Q ↔ jx_Ev d 18 58 lv (.int (x - z) :: st) M Q) ∧
  (∀ (d : Nat) (lv : List (Option Value)) (M : jx_M) (Q : jx_Po) (x : Int32), jx_Ev d 18 58 lv [.int x] M Q ↔ Q [.int x] M) := by
  refine ⟨?_, ?_, ?_, ?_, ?_, ?_, ?_, ?_, ?_, ?_, ?_, ?_, ?_, ?_, ?_, ?_, ?_, ?_, ?_, ?_, ?_, ?_, ?_, ?_, ?_, ?_, ?_, ?_, ?_, ?_, ?_, ?_, ?_, ?_, ?_⟩
  · exact fun d st M Q l1 l2 l3 x => jx_ev_st (jx_fok (by decide +kernel : decode (jx_mb 18) 0 = .ok (.aload_n 0, 1))) rfl rfl rfl
  · exact fun d lv st M Q => jx_k_gf (jx_fok (by decide +kernel : decode (jx_mb 18) 1 = .ok (.getfield 21, 3))) rfl rfl rfl
  · exact fun d lv st M Q => jx_ev_st (jx_fok (by decide +kernel : decode (jx_mb 18) 4 = .ok (.bipush 8, 2))) rfl rfl rfl
  · exact fun d lv st M Q x z => jx_k_b2 (jx_fok (by decide +kernel : decode (jx_mb 18) 6 = .ok (.if_icmp .lt 6, 3))) rfl jx_hLt
  · exact fun d lv st M Q => jx_ev_st (jx_fok (by decide +kernel : decode (jx_mb 18) 9 = .ok (.bipush (-4), 2))) rfl rfl rfl
  · exact fun d lv M Q x => jx_k_ri (jx_fok (by decide +kernel : decode (jx_mb 18) 11 = .ok (.ireturn, 1))) rfl
  · exact fun d st M Q l1 l2 l3 x => jx_ev_st (jx_fok (by decide +kernel : decode (jx_mb 18) 12 = .ok (.aload_n 0, 1))) rfl rfl rfl
  · exact fun d lv st M Q => jx_k_gf (jx_fok (by decide +kernel : decode (jx_mb 18) 13 = .ok (.getfield 9, 3))) rfl rfl rfl
  · exact fun d st M Q l1 l2 l3 x => jx_ev_st (jx_fok (by decide +kernel : decode (jx_mb 18) 16 = .ok (.aload_n 0, 1))) rfl rfl rfl
  · exact fun d lv st M Q => jx_k_gf (jx_fok (by decide +kernel : decode (jx_mb 18) 17 = .ok (.getfield 21, 3))) rfl rfl rfl
  · exact fun d st M Q l0 l2 l3 x => jx_ev_st (jx_fok (by decide +kernel : decode (jx_mb 18) 20 = .ok (.iload_n 1, 1))) rfl rfl rfl
  · exact fun d lv st M Q x z a ha => jx_k_as (jx_fok (by decide +kernel : decode (jx_mb 18) 21 = .ok (.iastore, 1))) ha
  · exact fun d st M Q l1 l2 l3 x => jx_ev_st (jx_fok (by decide +kernel : decode (jx_mb 18) 22 = .ok (.aload_n 0, 1))) rfl rfl rfl
  · exact fun d lv st M Q => jx_k_gf (jx_fok (by decide +kernel : decode (jx_mb 18) 23 = .ok (.getfield 15, 3))) rfl rfl rfl
  · exact fun d st M Q l1 l2 l3 x => jx_ev_st (jx_fok (by decide +kernel : decode (jx_mb 18) 26 = .ok (.aload_n 0, 1))) rfl rfl rfl
  · exact fun d lv st M Q => jx_k_gf (jx_fok (by decide +kernel : decode (jx_mb 18) 27 = .ok (.getfield 21, 3))) rfl rfl rfl
  · exact fun d st M Q l0 l1 l3 x => jx_ev_st (jx_fok (by decide +kernel : decode (jx_mb 18) 30 = .ok (.iload_n 2, 1))) rfl rfl rfl
  · exact fun d lv st M Q x z a ha => jx_k_as (jx_fok (by decide +kernel : decode (jx_mb 18) 31 = .ok (.iastore, 1))) ha
  · exact fun d st M Q l1 l2 l3 x => jx_ev_st (jx_fok (by decide +kernel : decode (jx_mb 18) 32 = .ok (.aload_n 0, 1))) rfl rfl rfl
  · exact fun d lv st M Q => jx_k_gf (jx_fok (by decide +kernel : decode (jx_mb 18) 33 = .ok (.getfield 18, 3))) rfl rfl rfl
  · exact fun d st M Q l1 l2 l3 x => jx_ev_st (jx_fok (by decide +kernel : decode (jx_mb 18) 36 = .ok (.aload_n 0, 1))) rfl rfl rfl
  · exact fun d lv st M Q => jx_k_gf (jx_fok (by decide +kernel : decode (jx_mb 18) 37 = .ok (.getfield 21, 3))) rfl rfl rfl
  · exact fun d st M Q l0 l1 l2 x => jx_ev_st (jx_fok (by decide +kernel : decode (jx_mb 18) 40 = .ok (.iload_n 3, 1))) rfl rfl rfl
  · exact fun d lv st M Q x z a ha => jx_k_as (jx_fok (by decide +kernel : decode (jx_mb 18) 41 = .ok (.iastore, 1))) ha
  · exact fun d st M Q l1 l2 l3 x => jx_ev_st (jx_fok (by decide +kernel : decode (jx_mb 18) 42 = .ok (.aload_n 0, 1))) rfl rfl rfl
  · exact fun d lv st M Q x => jx_ev_st (jx_fok (by decide +kernel : decode (jx_mb 18) 43 = .ok (.dup, 1))) rfl rfl rfl
  · exact fun d lv st M Q => jx_k_gf (jx_fok (by decide +kernel : decode (jx_mb 18) 44 = .ok (.getfield 21, 3))) rfl rfl rfl
  · exact fun d lv st M Q => jx_ev_st (jx_fok (by decide +kernel : decode (jx_mb 18) 47 = .ok (.iconst 1, 1))) rfl rfl rfl
  · exact fun d lv st M Q x z => jx_ev_st (jx_fok (by decide +kernel : decode (jx_mb 18) 48 = .ok (.iadd, 1))) rfl rfl rfl
  · exact fun d lv st M Q x => jx_k_pf0 (jx_fok (by decide +kernel : decode (jx_mb 18) 49 = .ok (.putfield 21, 3))) rfl rfl rfl
  · exact fun d st M Q l1 l2 l3 x => jx_ev_st (jx_fok (by decide +kernel : decode (jx_mb 18) 52 = .ok (.aload_n 0, 1))) rfl rfl rfl
  · exact fun d lv st M Q => jx_k_gf (jx_fok (by decide +kernel : decode (jx_mb 18) 53 = .ok (.getfield 21, 3))) rfl rfl rfl
  · exact fun d lv st M Q => jx_ev_st (jx_fok (by decide +kernel : decode (jx_mb 18) 56 = .ok (.iconst 1, 1))) rfl rfl rfl
  · exact fun d lv st M Q x z => jx_ev_st (jx_fok (by decide +kernel : decode (jx_mb 18) 57 = .ok (.isub, 1))) rfl rfl rfl
  · exact fun d lv M Q x => jx_k_ri (jx_fok (by decide +kernel : decode (jx_mb 18) 58 = .ok (.ireturn, 1))) rfl
theorem kX3_add (d : Nat) (M : jx_M) (q : Int32 → jx_M → Prop) (a0 a1 a2 a3 : Value) : jx_I d 18 [a0, a1, a2, a3] M q ↔ jx_Ev d 18 0 [some a0, some a1, some a2, some a3] [] M (jx_qI q) := Iff.rfl
set_option maxRecDepth 100000 in
theorem eX3_bitIfSo :
  (∀ (d : Nat) (lv : List (Option Value)) (st : List Value) (M : jx_M) (Q : jx_Po), jx_Ev d 19 0 lv st M Q ↔ jx_Ev d 19 1 lv (.int 0 :: st) M Q) ∧
  (∀ (d : Nat) (st : List Value) (M : jx_M) (Q : jx_Po) (l0 l1 l2 l3 : Option Value) (x : Int32), jx_Ev d 19 1 [l0, l1, l2, l3] (.int x :: st) M Q ↔ jx_Ev d 19 2 [l0, l1, l2, some (.int x)] st M Q) ∧
  (∀ (d : Nat) (st : List Value) (M : jx_M) (Q : jx_Po) (l1 l2 l3 : Option Value) (x : Nat), jx_Ev d 19 3 [some (.ref x), l1, l2, l3] st M Q ↔ jx_Ev d 19 4 [some (.ref x), l1, l2, l3] (.ref x :: st) M Q) ∧
  (∀ (d : Nat) (lv : List (Option Value)) (st : List Value) (M : jx_M) (Q : jx_Po), jx_Ev d 19 4 lv (.ref 3 :: st) M Q ↔ jx_Ev d 19 7 lv (.int (M 3 3) :: st) M Q) ∧
  (∀ (d : Nat) (lv : List (Option Value)) (st : List Value) (M : jx_M) (Q : jx_Po) (x z : Int32), jx_Ev d 19 7 lv (.int z :: .int x :: st) M Q ↔ (if z ≤ x then jx_Ev d 19 49 lv st M Q else jx_Ev d 19 10 lv st M Q)) ∧
  (∀ (d : Nat) (st : List Value) (M : jx_M) (Q : jx_Po) (l0 l1 l2 : Option Value) (x : Int32), jx_Ev d 19 10 [l0, l1, l2, some (.int x)] st M Q ↔ jx_Ev d 19 11 [l0, l1, l2, some (.int x)] (.int x :: st) M Q) ∧
  (∀ (d : Nat) (lv : List (Option Value)) (st : List Value) (M : jx_M) (Q : jx_Po), jx_Ev d 19 11 lv st M Q ↔ jx_Ev d 19 13 lv (.int 8 :: st) M Q) ∧
  (∀ (d : Nat) (lv : List (Option Value)) (st : List Value) (M : jx_M) (Q : jx_Po) (x z : Int32), jx_Ev d 19 13 lv (.int z :: .int x :: st) M Q ↔ (if z ≤ x then jx_Ev d 19 49 lv st M Q else jx_Ev d 19 16 lv st M Q)) ∧
  (∀ (d : Nat) (st : List Value) (M : jx_M) (Q : jx_Po) (l0 l2 l3 : Option Value) (x : Nat), jx_Ev d 19 16 [l0, some (.ref x), l2, l3] st M Q ↔ jx_Ev d 19 17 [l0, some (.ref x), l2, l3] (.ref x :: st) M Q) ∧
  (∀ (d : Nat) (st : List Value) (M : jx_M) (Q : jx_Po) (l1 l2 l3 : Option Value) (x : Nat), jx_Ev d 19 17 [some (.ref x), l1, l2, l3] st M Q ↔ jx_Ev d 19 18 [some (.ref x), l1, l2, l3] (.ref x :: st) M Q) ∧
  (∀ (d : Nat) (lv : List (Option Value)) (st : List Value) (M : jx_M) (Q : jx_Po), jx_Ev d 19 18 lv (.ref 3 :: st) M Q ↔ jx_Ev d 19 21 lv (.ref 4 :: st) M Q) ∧
  (∀ (d : Nat) (st : List Value) (M : jx_M) (Q : jx_Po) (l0 l1 l2 : Option Value) (x : Int32), jx_Ev d 19 21 [l0, l1, l2, some (.int x)] st M Q ↔ jx_Ev d 19 22 [l0, l1, l2, some (.int x)] (.int x :: st) M Q) ∧
  (∀ (d : Nat) (lv : List (Option Value)) (st : List Value) (M : jx_M) (Q : jx_Po) (x : Int32) (a : Nat) (ha : jx_cl a = 9), jx_Ev d 19 22 lv (.int x :: .ref a :: st) M Q ↔ (vp_in x (jx_sz a) ∧ jx_Ev d 19 23 lv (.int (M a x.toNatClampNeg) :: st) M Q)) ∧
  (∀ (d : Nat) (st : List Value) (M : jx_M) (Q : jx_Po) (l1 l2 l3 : Option Value) (x : Nat), jx_Ev d 19 23 [some (.ref x), l1, l2, l3] st M Q ↔ jx_Ev d 19 24 [some (.ref x), l1, l2, l3] (.ref x :: st) M Q) ∧
  (∀ (d : Nat) (lv : List (Option Value)) (st : List Value) (M : jx_M) (Q : jx_Po), jx_Ev d 19 24 lv (.ref 3 :: st) M Q ↔ jx_Ev d 19 27 lv (.ref 5 :: st) M Q) ∧
  (∀ (d : Nat) (st : List Value) (M : jx_M) (Q : jx_Po) (l0 l1 l2 : Option Value) (x : Int32), jx_Ev d 19 27 [l0, l1, l2, some (.int x)] st M Q ↔ jx_Ev d 19 28 [l0, l1, l2, some (.int x)] (.int x :: st) M Q) ∧
  (∀ (d : Nat) (lv : List (Option Value)) (st : List Value) (M : jx_M) (Q : jx_Po) (x : Int32) (a : Nat) (ha : jx_cl a = 9), jx_Ev d 19 28 lv (.int x :: .ref a :: st) M Q ↔ (vp_in x (jx_sz a) ∧ jx_Ev d 19 29 lv (.int (M a x.toNatClampNeg) :: st) M Q)) ∧
  (∀ (d : Nat) (lv : List (Option Value)) (M : jx_M) (Q : jx_Po) (a0 : Int32) (a1 : Int32) (a2 : Nat) (hk : jx_cl a2 = 1), jx_Ev (d + 1) 19 29 lv [.int a0, .int a1, .ref a2] M Q ↔ jx_I d 10 [.ref a2, .int a1, .int a0] M (fun x M => jx_Ev (d + 1) 19 32 lv (.int x :: []) M Q)) ∧
  (∀ (d : Nat) (st : List Value) (M : jx_M) (Q : jx_Po) (l1 l2 l3 : Option Value) (x : Nat), jx_Ev d 19 32 [some (.ref x), l1, l2, l3] st M Q ↔ jx_Ev d 19 33 [some (.ref x), l1, l2, l3] (.ref x :: st) M Q) ∧
  (∀ (d : Nat) (lv : List (Option Value)) (st : List Value) (M : jx_M) (Q : jx_Po), jx_Ev d 19 33 lv (.ref 3 :: st) M Q ↔ jx_Ev d 19 36 lv (.ref 6 :: st) M Q) ∧
  (∀ (d : Nat) (st : List Value) (M : jx_M) (Q : jx_Po) (l0 l1 l2 : Option Value) (x : Int32), jx_Ev d 19 36 [l0, l1, l2, some (.int x)] st M Q ↔ jx_Ev d 19 37 [l0, l1, l2, some (.int x)] (.int x :: st) M Q) ∧
  (∀ (d : Nat) (lv : List (Option Value)) (st : List Value) (M : jx_M) (Q : jx_Po) (x : Int32) (a : Nat) (ha : jx_cl a = 9), jx_Ev d 19 37 lv (.int x :: .ref a :: st) M Q ↔ (vp_in x (jx_sz a) ∧ jx_Ev d 19 38 lv (.int (M a x.toNatClampNeg) :: st) M Q)) ∧
  (∀ (d : Nat) (lv : List (Option Value)) (st : List Value) (M : jx_M) (Q : jx_Po) (x z : Int32), jx_Ev d 19 38 lv (.int z :: .int x :: st) M Q ↔ (if x = z then jx_Ev d 19 43 lv st M Q else jx_Ev d 19 41 lv st M Q)) ∧
  (∀ (d : Nat) (lv : List (Option Value)) (st : List Value) (M : jx_M) (Q : jx_Po), jx_Ev d 19 41 lv st M Q ↔ jx_Ev d 19 42 lv (.int 0 :: st) M Q) ∧
  (∀ (d : Nat) (lv : List (Option Value)) (M : jx_M) (Q : jx_Po) (x : Int32), jx_Ev d 19 42 lv [.int x] M Q ↔ Q [.int x] M) ∧
  (∀ (d : Nat) (st : List Value) (M : jx_M) (Q : jx_Po) (l0 l1 l2 : Option Value) (x : Int32), jx_Ev d 19 43 [l0, l1, l2, some (.int x)] st M Q ↔ jx_Ev d 19 46 [l0, l1, l2, some (.int (x + 1))] st M Q) ∧
  (∀ (d : Nat) (lv : List (Option Value)) (st : List Value) (M : jx_M) (Q : jx_Po), jx_Ev d 19 46 lv st M Q ↔ jx_Ev d 19 2 lv st M Q) ∧
  (∀ (d : Nat) (lv : List (Option Value)) (st : List Value) (M : jx_M) (Q : jx_Po), jx_Ev d 19 49 lv st M Q ↔ jx_Ev d 19 50 lv (.int 1 :: st) M Q) ∧
  (∀ (d : Nat) (st : List Value) (M : jx_M) (Q : jx_Po) (l0 l1 l3 : Option Value) (x : Int32), jx_Ev d 19 50 [l0, l1, some (.int x), l3] st M Q ↔ jx_Ev d 19 51 [l0, l1, some (.int x), l3] (.int x :: st) M Q) ∧
  (∀ (d : Nat) (lv : List (Option Value)) (st : List Value) (M : jx_M) (Q : jx_Po) (x z : Int32), jx_Ev d 19 51 lv (.int z :: .int x :: st) M Q ↔ jx_Ev d 19 52 lv (.int (x <<< (z &&& 31)) :: st) M Q) ∧
  (∀ (d : Nat) (lv : List (Option Value)) (M : jx_M) (Q : jx_Po) (x : Int32), jx_Ev d 19 52 lv [.int x] M Q ↔ Q [.int x] M) := by
  refine ⟨?_, ?_, ?_, ?_, ?_, ?_, ?_, ?_, ?_, ?_, ?_, ?_, ?_, ?_, ?_, ?_, ?_, ?_, ?_, ?_, ?_, ?_, ?_, ?_, ?_, ?_, ?_, ?_, ?_, ?_, ?_⟩
  · exact fun d lv st M Q => jx_ev_st (jx_fok (by decide +kernel : decode (jx_mb 19) 0 = .ok (.iconst 0, 1))) rfl rfl rfl
  · exact fun d st M Q l0 l1 l2 l3 x => jx_ev_st (jx_fok (by decide +kernel : decode (jx_mb 19) 1 = .ok (.istore_n 3, 1))) rfl rfl rfl
  · exact fun d st M Q l1 l2 l3 x => jx_ev_st (jx_fok (by decide +kernel : decode (jx_mb 19) 3 = .ok (.aload_n 0, 1))) rfl rfl rfl
  · exact fun d lv st M Q => jx_k_gf (jx_fok (by decide +kernel : decode (jx_mb 19) 4 = .ok (.getfield 21, 3))) rfl rfl rfl
  · exact fun d lv st M Q x z => jx_k_b2 (jx_fok (by decide +kernel : decode (jx_mb 19) 7 = .ok (.if_icmp .ge 42, 3))) rfl jx_hGe
  · exact fun d st M Q l0 l1 l2 x => jx_ev_st (jx_fok (by decide +kernel : decode (jx_mb 19) 10 = .ok (.iload_n 3, 1))) rfl rfl rfl
  · exact fun d lv st M Q => jx_ev_st (jx_fok (by decide +kernel : decode (jx_mb 19) 11 = .ok (.bipush 8, 2))) rfl rfl rfl
  · exact fun d lv st M Q x z => jx_k_b2 (jx_fok (by decide +kernel : decode (jx_mb 19) 13 = .ok (.if_icmp .ge 36, 3))) rfl jx_hGe
  · exact fun d st M Q l0 l2 l3 x => jx_ev_st (jx_fok (by decide +kernel : decode (jx_mb 19) 16 = .ok (.aload_n 1, 1))) rfl rfl rfl
  · exact fun d st M Q l1 l2 l3 x => jx_ev_st (jx_fok (by decide +kernel : decode (jx_mb 19) 17 = .ok (.aload_n 0, 1))) rfl rfl rfl
  · exact fun d lv st M Q => jx_k_gf (jx_fok (by decide +kernel : decode (jx_mb 19) 18 = .ok (.getfield 9, 3))) rfl rfl rfl
  · exact fun d st M Q l0 l1 l2 x => jx_ev_st (jx_fok (by decide +kernel : decode (jx_mb 19) 21 = .ok (.iload_n 3, 1))) rfl rfl rfl
  · exact fun d lv st M Q x a ha => jx_k_al (jx_fok (by decide +kernel : decode (jx_mb 19) 22 = .ok (.iaload, 1))) ha
  · exact fun d st M Q l1 l2 l3 x => jx_ev_st (jx_fok (by decide +kernel : decode (jx_mb 19) 23 = .ok (.aload_n 0, 1))) rfl rfl rfl
  · exact fun d lv st M Q => jx_k_gf (jx_fok (by decide +kernel : decode (jx_mb 19) 24 = .ok (.getfield 15, 3))) rfl rfl rfl
  · exact fun d st M Q l0 l1 l2 x => jx_ev_st (jx_fok (by decide +kernel : decode (jx_mb 19) 27 = .ok (.iload_n 3, 1))) rfl rfl rfl
  · exact fun d lv st M Q x a ha => jx_k_al (jx_fok (by decide +kernel : decode (jx_mb 19) 28 = .ok (.iaload, 1))) ha
  · exact fun d lv M Q a0 a1 a2 hk => jx_ev_ci (jx_fok (by decide +kernel : decode (jx_mb 19) 29 = .ok (.invokevirtual 25, 3))) rfl (jx_ccV (As := [.int a1, .int a0]) (rest := []) rfl rfl rfl hk rfl rfl) (by decide)
  · exact fun d st M Q l1 l2 l3 x => jx_ev_st (jx_fok (by decide +kernel : decode (jx_mb 19) 32 = .ok (.aload_n 0, 1))) rfl rfl rfl
  · exact fun d lv st M Q => jx_k_gf (jx_fok (by decide +kernel : decode (jx_mb 19) 33 = .ok (.getfield 18, 3))) rfl rfl rfl
  · exact fun d st M Q l0 l1 l2 x => jx_ev_st (jx_fok (by decide +kernel : decode (jx_mb 19) 36 = .ok (.iload_n 3, 1))) rfl rfl rfl
  · exact fun d lv st M Q x a ha => jx_k_al (jx_fok (by decide +kernel : decode (jx_mb 19) 37 = .ok (.iaload, 1))) ha
  · exact fun d lv st M Q x z => jx_k_b2 (jx_fok (by decide +kernel : decode (jx_mb 19) 38 = .ok (.if_icmp .eq 5, 3))) rfl jx_hEq
  · exact fun d lv st M Q => jx_ev_st (jx_fok (by decide +kernel : decode (jx_mb 19) 41 = .ok (.iconst 0, 1))) rfl rfl rfl
  · exact fun d lv M Q x => jx_k_ri (jx_fok (by decide +kernel : decode (jx_mb 19) 42 = .ok (.ireturn, 1))) rfl
  · exact fun d st M Q l0 l1 l2 x => jx_ev_st (jx_fok (by decide +kernel : decode (jx_mb 19) 43 = .ok (.iinc 3 1, 3))) rfl rfl rfl
  · exact fun d lv st M Q => jx_k_goto (jx_fok (by decide +kernel : decode (jx_mb 19) 46 = .ok (.goto (-44), 3))) rfl
  · exact fun d lv st M Q => jx_ev_st (jx_fok (by decide +kernel : decode (jx_mb 19) 49 = .ok (.iconst 1, 1))) rfl rfl rfl
  · exact fun d st M Q l0 l1 l3 x => jx_ev_st (jx_fok (by decide +kernel : decode (jx_mb 19) 50 = .ok (.iload_n 2, 1))) rfl rfl rfl
  · exact fun d lv st M Q x z => jx_ev_st (jx_fok (by decide +kernel : decode (jx_mb 19) 51 = .ok (.ishl, 1))) rfl rfl rfl
  · exact fun d lv M Q x => jx_k_ri (jx_fok (by decide +kernel : decode (jx_mb 19) 52 = .ok (.ireturn, 1))) rfl
theorem eX3_bitIfSo_2 (d : Nat) (st : List Value) (M : jx_M) (Q : jx_Po) (l0 l1 l2 : Option Value) (x : Int32) : jx_Ev d 19 2 [l0, l1, l2, some (.int x)] st M Q ↔ jx_Ev d 19 3 [l0, l1, l2, some (.int x)] (.int x :: st) M Q := jx_ev_st (jx_fok (by decide +kernel : decode (jx_mb 19) 2 = .ok (.iload_n 3, 1))) rfl rfl rfl
theorem kX3_bitIfSo (d : Nat) (M : jx_M) (q : Int32 → jx_M → Prop) (a0 a1 a2 : Value) : jx_I d 19 [a0, a1, a2] M q ↔ jx_Ev d 19 0 [some a0, some a1, some a2, none] [] M (jx_qI q) := Iff.rfl
set_option maxRecDepth 100000 in
theorem eX4_renew :
  (∀ (d : Nat) (st : List Value) (M : jx_M) (Q : jx_Po) (l1 l2 l3 : Option Value) (x : Nat), jx_Ev d 20 0 [some (.ref x), l1, l2, l3] st M Q ↔ jx_Ev d 20 1 [some (.ref x), l1, l2, l3] (.ref x :: st) M Q) ∧
  (∀ (d : Nat) (st : List Value) (M : jx_M) (Q : jx_Po) (l0 l2 l3 : Option Value) (x : Int32), jx_Ev d 20 1 [l0, some (.int x), l2, l3] st M Q ↔ jx_Ev d 20 2 [l0, some (.int x), l2, l3] (.int x :: st) M Q) ∧
  (∀ (d : Nat) (lv : List (Option Value)) (st : List Value) (M : jx_M) (Q : jx_Po) (x : Int32) (k : Nat) (hk : jx_cl k = 4), jx_Ev d 20 2 lv (.int x :: .ref k :: st) M Q ↔ jx_Ev d 20 5 lv st (jx_up M k 1 x) Q) ∧
  (∀ (d : Nat) (st : List Value) (M : jx_M) (Q : jx_Po) (l1 l2 l3 : Option Value) (x : Nat), jx_Ev d 20 5 [some (.ref x), l1, l2, l3] st M Q ↔ jx_Ev d 20 6 [some (.ref x), l1, l2, l3] (.ref x :: st) M Q) ∧
  (∀ (d : Nat) (st : List Value) (M : jx_M) (Q : jx_Po) (l0 l1 l3 : Option Value) (x : Int32), jx_Ev d 20 6 [l0, l1, some (.int x), l3] st M Q ↔ jx_Ev d 20 7 [l0, l1, some (.int x), l3] (.int x :: st) M Q) ∧
  (∀ (d : Nat) (lv : List (Option Value)) (st : List Value) (M : jx_M) (Q : jx_Po) (x : Int32) (k : Nat) (hk : jx_cl k = 4), jx_Ev d 20 7 lv (.int x :: .ref k :: st) M Q ↔ jx_Ev d 20 10 lv st (jx_up M k 2 x) Q) ∧
  (∀ (d : Nat) (st : List Value) (M : jx_M) (Q : jx_Po) (l1 l2 l3 : Option Value) (x : Nat), jx_Ev d 20 10 [some (.ref x), l1, l2, l3] st M Q ↔ jx_Ev d 20 11 [some (.ref x), l1, l2, l3] (.ref x :: st) M Q) ∧
  (∀ (d : Nat) (lv : List (Option Value)) (st : List Value) (M : jx_M) (Q : jx_Po), jx_Ev d 20 11 lv st M Q ↔ jx_Ev d 20 12 lv (.int 1 :: st) M Q) ∧
  (∀ (d : Nat) (lv : List (Option Value)) (st : List Value) (M : jx_M) (Q : jx_Po) (x : Int32) (k : Nat) (hk : jx_cl k = 4), jx_Ev d 20 12 lv (.int x :: .ref k :: st) M Q ↔ ((x = 0 ∨ x = 1) ∧ jx_Ev d 20 15 lv st (jx_up M k 3 x) Q)) ∧
  (∀ (d : Nat) (lv : List (Option Value)) (st : List Value) (M : jx_M) (Q : jx_Po), jx_Ev d 20 15 lv st M Q ↔ jx_Ev d 20 16 lv (.int 0 :: st) M Q) ∧
  (∀ (d : Nat) (st : List Value) (M : jx_M) (Q : jx_Po) (l0 l1 l2 l3 : Option Value) (x : Int32), jx_Ev d 20 16 [l0, l1, l2, l3] (.int x :: st) M Q ↔ jx_Ev d 20 17 [l0, l1, l2, some (.int x)] st M Q) ∧
  (∀ (d : Nat) (lv : List (Option Value)) (st : List Value) (M : jx_M) (Q : jx_Po), jx_Ev d 20 18 lv st M Q ↔ jx_Ev d 20 20 lv (.int 60 :: st) M Q) ∧
  (∀ (d : Nat) (lv : List (Option Value)) (st : List Value) (M : jx_M) (Q : jx_Po) (x z : Int32), jx_Ev d 20 20 lv (.int z :: .int x :: st) M Q ↔ (if z ≤ x then jx_Ev d 20 36 lv st M Q else jx_Ev d 20 23 lv st M Q)) ∧
  (∀ (d : Nat) (st : List Value) (M : jx_M) (Q : jx_Po) (l1 l2 l3 : Option Value) (x : Nat), jx_Ev d 20 23 [some (.ref x), l1, l2, l3] st M Q ↔ jx_Ev d 20 24 [some (.ref x), l1, l2, l3] (.ref x :: st) M Q) ∧
  (∀ (d : Nat) (lv : List (Option Value)) (st : List Value) (M : jx_M) (Q : jx_Po) (k : Nat) (hk : jx_cl k = 4), jx_Ev d 20 24 lv (.ref k :: st) M Q ↔ jx_Ev d 20 27 lv (.ref (k + 1) :: st) M Q) ∧
  (∀ (d : Nat) (st : List Value) (M : jx_M) (Q : jx_Po) (l0 l1 l2 : Option Value) (x : Int32), jx_Ev d 20 27 [l0, l1, l2, some (.int x)] st M Q ↔ jx_Ev d 20 28 [l0, l1, l2, some (.int x)] (.int x :: st) M Q) ∧
  (∀ (d : Nat) (lv : List (Option Value)) (st : List Value) (M : jx_M) (Q : jx_Po), jx_Ev d 20 28 lv st M Q ↔ jx_Ev d 20 29 lv (.int 0 :: st) M Q) ∧
  (∀ (d : Nat) (lv : List (Option Value)) (st : List Value) (M : jx_M) (Q : jx_Po) (x z : Int32) (a : Nat) (ha : jx_cl a = 9), jx_Ev d 20 29 lv (.int z :: .int x :: .ref a :: st) M Q ↔ (vp_in x (jx_sz a) ∧ jx_Ev d 20 30 lv st (jx_up M a x.toNatClampNeg z) Q)) ∧
  (∀ (d : Nat) (st : List Value) (M : jx_M) (Q : jx_Po) (l0 l1 l2 : Option Value) (x : Int32), jx_Ev d 20 30 [l0, l1, l2, some (.int x)] st M Q ↔ jx_Ev d 20 33 [l0, l1, l2, some (.int (x + 1))] st M Q) ∧
  (∀ (d : Nat) (lv : List (Option Value)) (st : List Value) (M : jx_M) (Q : jx_Po), jx_Ev d 20 33 lv st M Q ↔ jx_Ev d 20 17 lv st M Q) ∧
  (∀ (d : Nat) (lv : List (Option Value)) (M : jx_M) (Q : jx_Po), jx_Ev d 20 36 lv [] M Q ↔ Q [] M) := by
  refine ⟨?_, ?_, ?_, ?_, ?_, ?_, ?_, ?_, ?_, ?_, ?_, ?_, ?_, ?_, ?_, ?_, ?_, ?_, ?_, ?_, ?_⟩
  · exact fun d st M Q l1 l2 l3 x => jx_ev_st (jx_fok (by decide +kernel : decode (jx_mb 20) 0 = .ok (.aload_n 0, 1))) rfl rfl rfl
  · exact fun d st M Q l0 l2 l3 x => jx_ev_st (jx_fok (by decide +kernel : decode (jx_mb 20) 1 = .ok (.iload_n 1, 1))) rfl rfl rfl
  · exact fun d lv st M Q x k hk => jx_k_pf0 (jx_fok (by decide +kernel : decode (jx_mb 20) 2 = .ok (.putfield 15, 3))) rfl hk rfl
  · exact fun d st M Q l1 l2 l3 x => jx_ev_st (jx_fok (by decide +kernel : decode (jx_mb 20) 5 = .ok (.aload_n 0, 1))) rfl rfl rfl
  · exact fun d st M Q l0 l1 l3 x => jx_ev_st (jx_fok (by decide +kernel : decode (jx_mb 20) 6 = .ok (.iload_n 2, 1))) rfl rfl rfl
  · exact fun d lv st M Q x k hk => jx_k_pf0 (jx_fok (by decide +kernel : decode (jx_mb 20) 7 = .ok (.putfield 19, 3))) rfl hk rfl
  · exact fun d st M Q l1 l2 l3 x => jx_ev_st (jx_fok (by decide +kernel : decode (jx_mb 20) 10 = .ok (.aload_n 0, 1))) rfl rfl rfl
  · exact fun d lv st M Q => jx_ev_st (jx_fok (by decide +kernel : decode (jx_mb 20) 11 = .ok (.iconst 1, 1))) rfl rfl rfl
  · exact fun d lv st M Q x k hk => jx_k_pf1 (jx_fok (by decide +kernel : decode (jx_mb 20) 12 = .ok (.putfield 22, 3))) rfl hk rfl
  · exact fun d lv st M Q => jx_ev_st (jx_fok (by decide +kernel : decode (jx_mb 20) 15 = .ok (.iconst 0, 1))) rfl rfl rfl
  · exact fun d st M Q l0 l1 l2 l3 x => jx_ev_st (jx_fok (by decide +kernel : decode (jx_mb 20) 16 = .ok (.istore_n 3, 1))) rfl rfl rfl
  · exact fun d lv st M Q => jx_ev_st (jx_fok (by decide +kernel : decode (jx_mb 20) 18 = .ok (.bipush 60, 2))) rfl rfl rfl
  · exact fun d lv st M Q x z => jx_k_b2 (jx_fok (by decide +kernel : decode (jx_mb 20) 20 = .ok (.if_icmp .ge 16, 3))) rfl jx_hGe
  · exact fun d st M Q l1 l2 l3 x => jx_ev_st (jx_fok (by decide +kernel : decode (jx_mb 20) 23 = .ok (.aload_n 0, 1))) rfl rfl rfl
  · exact fun d lv st M Q k hk => jx_k_gf (jx_fok (by decide +kernel : decode (jx_mb 20) 24 = .ok (.getfield 9, 3))) rfl hk rfl
  · exact fun d st M Q l0 l1 l2 x => jx_ev_st (jx_fok (by decide +kernel : decode (jx_mb 20) 27 = .ok (.iload_n 3, 1))) rfl rfl rfl
  · exact fun d lv st M Q => jx_ev_st (jx_fok (by decide +kernel : decode (jx_mb 20) 28 = .ok (.iconst 0, 1))) rfl rfl rfl
  · exact fun d lv st M Q x z a ha => jx_k_as (jx_fok (by decide +kernel : decode (jx_mb 20) 29 = .ok (.iastore, 1))) ha
  · exact fun d st M Q l0 l1 l2 x => jx_ev_st (jx_fok (by decide +kernel : decode (jx_mb 20) 30 = .ok (.iinc 3 1, 3))) rfl rfl rfl
  · exact fun d lv st M Q => jx_k_goto (jx_fok (by decide +kernel : decode (jx_mb 20) 33 = .ok (.goto (-16), 3))) rfl
  · exact fun d lv M Q => jx_k_rv (jx_fok (by decide +kernel : decode (jx_mb 20) 36 = .ok (.return_, 1))) rfl
theorem eX4_renew_17 (d : Nat) (st : List Value) (M : jx_M) (Q : jx_Po) (l0 l1 l2 : Option Value) (x : Int32) : jx_Ev d 20 17 [l0, l1, l2, some (.int x)] st M Q ↔ jx_Ev d 20 18 [l0, l1, l2, some (.int x)] (.int x :: st) M Q := jx_ev_st (jx_fok (by decide +kernel : decode (jx_mb 20) 17 = .ok (.iload_n 3, 1))) rfl rfl rfl
theorem kX4_renew (d : Nat) (M : jx_M) (q : jx_M → Prop) (a0 a1 a2 : Value) : jx_V d 20 [a0, a1, a2] M q ↔ jx_Ev d 20 0 [some a0, some a1, some a2, none] [] M (jx_qV q) := Iff.rfl
set_option maxRecDepth 100000 in
theorem eX4_hasCells :
  (∀ (d : Nat) (st : List Value) (M : jx_M) (Q : jx_Po) (l0 l1 : Option Value) (x : Int32), jx_Ev d 21 0 [l0, l1, some (.int x)] st M Q ↔ jx_Ev d 21 1 [l0, l1, some (.int x)] (.int x :: st) M Q) ∧
  (∀ (d : Nat) (lv : List (Option Value)) (st : List Value) (M : jx_M) (Q : jx_Po) (x : Int32), jx_Ev d 21 1 lv (.int x :: st) M Q ↔ (if x < 0 then jx_Ev d 21 30 lv st M Q else jx_Ev d 21 4 lv st M Q)) ∧
  (∀ (d : Nat) (st : List Value) (M : jx_M) (Q : jx_Po) (l0 l1 : Option Value) (x : Int32), jx_Ev d 21 4 [l0, l1, some (.int x)] st M Q ↔ jx_Ev d 21 5 [l0, l1, some (.int x)] (.int x :: st) M Q) ∧
  (∀ (d : Nat) (st : List Value) (M : jx_M) (Q : jx_Po) (l1 l2 : Option Value) (x : Nat), jx_Ev d 21 5 [some (.ref x), l1, l2] st M Q ↔ jx_Ev d 21 6 [some (.ref x), l1, l2] (.ref x :: st) M Q) ∧
  (∀ (d : Nat) (lv : List (Option Value)) (st : List Value) (M : jx_M) (Q : jx_Po) (k : Nat) (hk : jx_cl k = 4), jx_Ev d 21 6 lv (.ref k :: st) M Q ↔ jx_Ev d 21 9 lv (.int (M k 2) :: st) M Q) ∧
  (∀ (d : Nat) (lv : List (Option Value)) (st : List Value) (M : jx_M) (Q : jx_Po) (x z : Int32), jx_Ev d 21 9 lv (.int z :: .int x :: st) M Q ↔ (if z < x then jx_Ev d 21 30 lv st M Q else jx_Ev d 21 12 lv st M Q)) ∧
  (∀ (d : Nat) (st : List Value) (M : jx_M) (Q : jx_Po) (l0 l2 : Option Value) (x : Int32), jx_Ev d 21 12 [l0, some (.int x), l2] st M Q ↔ jx_Ev d 21 13 [l0, some (.int x), l2] (.int x :: st) M Q) ∧
  (∀ (d : Nat) (lv : List (Option Value)) (st : List Value) (M : jx_M) (Q : jx_Po) (x : Int32), jx_Ev d 21 13 lv (.int x :: st) M Q ↔ (if x < 0 then jx_Ev d 21 30 lv st M Q else jx_Ev d 21 16 lv st M Q)) ∧
  (∀ (d : Nat) (st : List Value) (M : jx_M) (Q : jx_Po) (l0 l2 : Option Value) (x : Int32), jx_Ev d 21 16 [l0, some (.int x), l2] st M Q ↔ jx_Ev d 21 17 [l0, some (.int x), l2] (.int x :: st) M Q) ∧
  (∀ (d : Nat) (st : List Value) (M : jx_M) (Q : jx_Po) (l1 l2 : Option Value) (x : Nat), jx_Ev d 21 17 [some (.ref x), l1, l2] st M Q ↔ jx_Ev d 21 18 [some (.ref x), l1, l2] (.ref x :: st) M Q) ∧
  (∀ (d : Nat) (lv : List (Option Value)) (st : List Value) (M : jx_M) (Q : jx_Po) (k : Nat) (hk : jx_cl k = 4), jx_Ev d 21 18 lv (.ref k :: st) M Q ↔ jx_Ev d 21 21 lv (.int (M k 2) :: st) M Q) ∧
  (∀ (d : Nat) (st : List Value) (M : jx_M) (Q : jx_Po) (l0 l1 : Option Value) (x : Int32), jx_Ev d 21 21 [l0, l1, some (.int x)] st M Q ↔ jx_Ev d 21 22 [l0, l1, some (.int x)] (.int x :: st) M Q) ∧
  (∀ (d : Nat) (lv : List (Option Value)) (st : List Value) (M : jx_M) (Q : jx_Po) (x z : Int32), jx_Ev d 21 22 lv (.int z :: .int x :: st) M Q ↔ jx_Ev d 21 23 lv (.int (x - z) :: st) M Q) ∧
  (∀ (d : Nat) (lv : List (Option Value)) (st : List Value) (M : jx_M) (Q : jx_Po) (x z : Int32), jx_Ev d 21 23 lv (.int z :: .int x :: st) M Q ↔ (if z < x then jx_Ev d 21 30 lv st M Q else jx_Ev d 21 26 lv st M Q)) ∧
  (∀ (d : Nat) (lv : List (Option Value)) (st : List Value) (M : jx_M) (Q : jx_Po), jx_Ev d 21 26 lv st M Q ↔ jx_Ev d 21 27 lv (.int 1 :: st) M Q) ∧
  (∀ (d : Nat) (lv : List (Option Value)) (st : List Value) (M : jx_M) (Q : jx_Po), jx_Ev d 21 27 lv st M Q ↔ jx_Ev d 21 31 lv st M Q) ∧
  (∀ (d : Nat) (lv : List (Option Value)) (st : List Value) (M : jx_M) (Q : jx_Po), jx_Ev d 21 30 lv st M Q ↔ jx_Ev d 21 31 lv (.int 0 :: st) M Q) ∧
  (∀ (d : Nat) (lv : List (Option Value)) (M : jx_M) (Q : jx_Po) (x : Int32), jx_Ev d 21 31 lv [.int x] M Q ↔ ((x = 0 ∨ x = 1) ∧ Q [.int x] M)) := by
  refine ⟨?_, ?_, ?_, ?_, ?_, ?_, ?_, ?_, ?_, ?_, ?_, ?_, ?_, ?_, ?_, ?_, ?_, ?_⟩
  · exact fun d st M Q l0 l1 x => jx_ev_st (jx_fok (by decide +kernel : decode (jx_mb 21) 0 = .ok (.iload_n 2, 1))) rfl rfl rfl
  · exact fun d lv st M Q x => jx_k_b1 (jx_fok (by decide +kernel : decode (jx_mb 21) 1 = .ok (.ifCond .lt 29, 3))) rfl jx_hLt
  · exact fun d st M Q l0 l1 x => jx_ev_st (jx_fok (by decide +kernel : decode (jx_mb 21) 4 = .ok (.iload_n 2, 1))) rfl rfl rfl
  · exact fun d st M Q l1 l2 x => jx_ev_st (jx_fok (by decide +kernel : decode (jx_mb 21) 5 = .ok (.aload_n 0, 1))) rfl rfl rfl
  · exact fun d lv st M Q k hk => jx_k_gf (jx_fok (by decide +kernel : decode (jx_mb 21) 6 = .ok (.getfield 19, 3))) rfl hk rfl
  · exact fun d lv st M Q x z => jx_k_b2 (jx_fok (by decide +kernel : decode (jx_mb 21) 9 = .ok (.if_icmp .gt 21, 3))) rfl jx_hGt
  · exact fun d st M Q l0 l2 x => jx_ev_st (jx_fok (by decide +kernel : decode (jx_mb 21) 12 = .ok (.iload_n 1, 1))) rfl rfl rfl
  · exact fun d lv st M Q x => jx_k_b1 (jx_fok (by decide +kernel : decode (jx_mb 21) 13 = .ok (.ifCond .lt 17, 3))) rfl jx_hLt
  · exact fun d st M Q l0 l2 x => jx_ev_st (jx_fok (by decide +kernel : decode (jx_mb 21) 16 = .ok (.iload_n 1, 1))) rfl rfl rfl
  · exact fun d st M Q l1 l2 x => jx_ev_st (jx_fok (by decide +kernel : decode (jx_mb 21) 17 = .ok (.aload_n 0, 1))) rfl rfl rfl
  · exact fun d lv st M Q k hk => jx_k_gf (jx_fok (by decide +kernel : decode (jx_mb 21) 18 = .ok (.getfield 19, 3))) rfl hk rfl
  · exact fun d st M Q l0 l1 x => jx_ev_st (jx_fok (by decide +kernel : decode (jx_mb 21) 21 = .ok (.iload_n 2, 1))) rfl rfl rfl
  · exact fun d lv st M Q x z => jx_ev_st (jx_fok (by decide +kernel : decode (jx_mb 21) 22 = .ok (.isub, 1))) rfl rfl rfl
  · exact fun d lv st M Q x z => jx_k_b2 (jx_fok (by decide +kernel : decode (jx_mb 21) 23 = .ok (.if_icmp .gt 7, 3))) rfl jx_hGt
  · exact fun d lv st M Q => jx_ev_st (jx_fok (by decide +kernel : decode (jx_mb 21) 26 = .ok (.iconst 1, 1))) rfl rfl rfl
  · exact fun d lv st M Q => jx_k_goto (jx_fok (by decide +kernel : decode (jx_mb 21) 27 = .ok (.goto 4, 3))) rfl
  · exact fun d lv st M Q => jx_ev_st (jx_fok (by decide +kernel : decode (jx_mb 21) 30 = .ok (.iconst 0, 1))) rfl rfl rfl
  · exact fun d lv M Q x => jx_k_rz (jx_fok (by decide +kernel : decode (jx_mb 21) 31 = .ok (.ireturn, 1))) rfl
theorem kX4_hasCells (d : Nat) (M : jx_M) (q : Int32 → jx_M → Prop) (a0 a1 a2 : Value) : jx_I d 21 [a0, a1, a2] M q ↔ jx_Ev d 21 0 [some a0, some a1, some a2] [] M (jx_qI q) := Iff.rfl
set_option maxRecDepth 100000 in
theorem eX4_faultOfCells :
  (∀ (d : Nat) (st : List Value) (M : jx_M) (Q : jx_Po) (l1 l2 l3 : Option Value) (x : Nat), jx_Ev d 22 0 [some (.ref x), l1, l2, l3] st M Q ↔ jx_Ev d 22 1 [some (.ref x), l1, l2, l3] (.ref x :: st) M Q) ∧
  (∀ (d : Nat) (lv : List (Option Value)) (st : List Value) (M : jx_M) (Q : jx_Po) (k : Nat) (hk : jx_cl k = 4), jx_Ev d 22 1 lv (.ref k :: st) M Q ↔ jx_Ev d 22 4 lv (.int (M k 3) :: st) M Q) ∧
  (∀ (d : Nat) (lv : List (Option Value)) (st : List Value) (M : jx_M) (Q : jx_Po) (x : Int32), jx_Ev d 22 4 lv (.int x :: st) M Q ↔ (if x = 0 then jx_Ev d 22 17 lv st M Q else jx_Ev d 22 7 lv st M Q)) ∧
  (∀ (d : Nat) (st : List Value) (M : jx_M) (Q : jx_Po) (l1 l2 l3 : Option Value) (x : Nat), jx_Ev d 22 7 [some (.ref x), l1, l2, l3] st M Q ↔ jx_Ev d 22 8 [some (.ref x), l1, l2, l3] (.ref x :: st) M Q) ∧
  (∀ (d : Nat) (lv : List (Option Value)) (st : List Value) (M : jx_M) (Q : jx_Po) (k : Nat) (hk : jx_cl k = 4), jx_Ev d 22 8 lv (.ref k :: st) M Q ↔ jx_Ev d 22 11 lv (.int (M k 1) :: st) M Q) ∧
  (∀ (d : Nat) (st : List Value) (M : jx_M) (Q : jx_Po) (l0 l2 l3 : Option Value) (x : Int32), jx_Ev d 22 11 [l0, some (.int x), l2, l3] st M Q ↔ jx_Ev d 22 12 [l0, some (.int x), l2, l3] (.int x :: st) M Q) ∧
  (∀ (d : Nat) (lv : List (Option Value)) (st : List Value) (M : jx_M) (Q : jx_Po) (x z : Int32), jx_Ev d 22 12 lv (.int z :: .int x :: st) M Q ↔ (if x = z then jx_Ev d 22 17 lv st M Q else jx_Ev d 22 15 lv st M Q)) ∧
  (∀ (d : Nat) (lv : List (Option Value)) (st : List Value) (M : jx_M) (Q : jx_Po), jx_Ev d 22 15 lv st M Q ↔ jx_Ev d 22 16 lv (.int 2 :: st) M Q) ∧
  (∀ (d : Nat) (lv : List (Option Value)) (M : jx_M) (Q : jx_Po) (x : Int32), jx_Ev d 22 16 lv [.int x] M Q ↔ Q [.int x] M) ∧
  (∀ (d : Nat) (st : List Value) (M : jx_M) (Q : jx_Po) (l1 l2 l3 : Option Value) (x : Nat), jx_Ev d 22 17 [some (.ref x), l1, l2, l3] st M Q ↔ jx_Ev d 22 18 [some (.ref x), l1, l2, l3] (.ref x :: st) M Q) ∧
  (∀ (d : Nat) (lv : List (Option Value)) (st : List Value) (M : jx_M) (Q : jx_Po) (k : Nat) (hk : jx_cl k = 4), jx_Ev d 22 18 lv (.ref k :: st) M Q ↔ jx_Ev d 22 21 lv (.int (M k 3) :: st) M Q) ∧
  (∀ (d : Nat) (lv : List (Option Value)) (st : List Value) (M : jx_M) (Q : jx_Po) (x : Int32), jx_Ev d 22 21 lv (.int x :: st) M Q ↔ (if x = 0 then jx_Ev d 22 24 lv st M Q else jx_Ev d 22 26 lv st M Q)) ∧
  (∀ (d : Nat) (lv : List (Option Value)) (st : List Value) (M : jx_M) (Q : jx_Po), jx_Ev d 22 24 lv st M Q ↔ jx_Ev d 22 25 lv (.int 1 :: st) M Q) ∧
  (∀ (d : Nat) (lv : List (Option Value)) (M : jx_M) (Q : jx_Po) (x : Int32), jx_Ev d 22 25 lv [.int x] M Q ↔ Q [.int x] M) ∧
  (∀ (d : Nat) (st : List Value) (M : jx_M) (Q : jx_Po) (l0 l1 l2 : Option Value) (x : Int32), jx_Ev d 22 26 [l0, l1, l2, some (.int x)] st M Q ↔ jx_Ev d 22 27 [l0, l1, l2, some (.int x)] (.int x :: st) M Q) ∧
  (∀ (d : Nat) (lv : List (Option Value)) (st : List Value) (M : jx_M) (Q : jx_Po) (x : Int32), jx_Ev d 22 27 lv (.int x :: st) M Q ↔ (if 0 ≤ x then jx_Ev d 22 32 lv st M Q else jx_Ev d 22 30 lv st M Q)) ∧
  (∀ (d : Nat) (lv : List (Option Value)) (st : List Value) (M : jx_M) (Q : jx_Po), jx_Ev d 22 30 lv st M Q ↔ jx_Ev d 22 31 lv (.int 4 :: st) M Q) ∧
  (∀ (d : Nat) (lv : List (Option Value)) (M : jx_M) (Q : jx_Po) (x : Int32), jx_Ev d 22 31 lv [.int x] M Q ↔ Q [.int x] M) ∧
  (∀ (d : Nat) (st : List Value) (M : jx_M) (Q : jx_Po) (l1 l2 l3 : Option Value) (x : Nat), jx_Ev d 22 32 [some (.ref x), l1, l2, l3] st M Q ↔ jx_Ev d 22 33 [some (.ref x), l1, l2, l3] (.ref x :: st) M Q) ∧
  (∀ (d : Nat) (st : List Value) (M : jx_M) (Q : jx_Po) (l0 l1 l3 : Option Value) (x : Int32), jx_Ev d 22 33 [l0, l1, some (.int x), l3] st M Q ↔ jx_Ev d 22 34 [l0, l1, some (.int x), l3] (.int x :: st) M Q) ∧
  (∀ (d : Nat) (st : List Value) (M : jx_M) (Q : jx_Po) (l0 l1 l2 : Option Value) (x : Int32), jx_Ev d 22 34 [l0, l1, l2, some (.int x)] st M Q ↔ jx_Ev d 22 35 [l0, l1, l2, some (.int x)] (.int x :: st) M Q) ∧
  (∀ (d : Nat) (lv : List (Option Value)) (M : jx_M) (Q : jx_Po) (a0 : Int32) (a1 : Int32) (a2 : Nat) (hk : jx_cl a2 = 4), jx_Ev (d + 1) 22 35 lv [.int a0, .int a1, .ref a2] M Q ↔ jx_I d 21 [.ref a2, .int a1, .int a0] M (fun x M => jx_Ev (d + 1) 22 38 lv (.int x :: []) M Q)) ∧
  (∀ (d : Nat) (lv : List (Option Value)) (st : List Value) (M : jx_M) (Q : jx_Po) (x : Int32), jx_Ev d 22 38 lv (.int x :: st) M Q ↔ (if x = 0 then jx_Ev d 22 45 lv st M Q else jx_Ev d 22 41 lv st M Q)) ∧
  (∀ (d : Nat) (lv : List (Option Value)) (st : List Value) (M : jx_M) (Q : jx_Po), jx_Ev d 22 41 lv st M Q ↔ jx_Ev d 22 42 lv (.int 0 :: st) M Q) ∧
  (∀ (d : Nat) (lv : List (Option Value)) (st : List Value) (M : jx_M) (Q : jx_Po), jx_Ev d 22 42 lv st M Q ↔ jx_Ev d 22 46 lv st M Q) ∧
  (∀ (d : Nat) (lv : List (Option Value)) (st : List Value) (M : jx_M) (Q : jx_Po), jx_Ev d 22 45 lv st M Q ↔ jx_Ev d 22 46 lv (.int 3 :: st) M Q) ∧
  (∀ (d : Nat) (lv : List (Option Value)) (M : jx_M) (Q : jx_Po) (x : Int32), jx_Ev d 22 46 lv [.int x] M Q ↔ Q [.int x] M) := by
  refine ⟨?_, ?_, ?_, ?_, ?_, ?_, ?_, ?_, ?_, ?_, ?_, ?_, ?_, ?_, ?_, ?_, ?_, ?_, ?_, ?_, ?_, ?_, ?_, ?_, ?_, ?_, ?_⟩
  · exact fun d st M Q l1 l2 l3 x => jx_ev_st (jx_fok (by decide +kernel : decode (jx_mb 22) 0 = .ok (.aload_n 0, 1))) rfl rfl rfl
  · exact fun d lv st M Q k hk => jx_k_gf (jx_fok (by decide +kernel : decode (jx_mb 22) 1 = .ok (.getfield 22, 3))) rfl hk rfl
  · exact fun d lv st M Q x => jx_k_b1 (jx_fok (by decide +kernel : decode (jx_mb 22) 4 = .ok (.ifCond .eq 13, 3))) rfl jx_hEq
  · exact fun d st M Q l1 l2 l3 x => jx_ev_st (jx_fok (by decide +kernel : decode (jx_mb 22) 7 = .ok (.aload_n 0, 1))) rfl rfl rfl
  · exact fun d lv st M Q k hk => jx_k_gf (jx_fok (by decide +kernel : decode (jx_mb 22) 8 = .ok (.getfield 15, 3))) rfl hk rfl
  · exact fun d st M Q l0 l2 l3 x => jx_ev_st (jx_fok (by decide +kernel : decode (jx_mb 22) 11 = .ok (.iload_n 1, 1))) rfl rfl rfl
  · exact fun d lv st M Q x z => jx_k_b2 (jx_fok (by decide +kernel : decode (jx_mb 22) 12 = .ok (.if_icmp .eq 5, 3))) rfl jx_hEq
  · exact fun d lv st M Q => jx_ev_st (jx_fok (by decide +kernel : decode (jx_mb 22) 15 = .ok (.iconst 2, 1))) rfl rfl rfl
  · exact fun d lv M Q x => jx_k_ri (jx_fok (by decide +kernel : decode (jx_mb 22) 16 = .ok (.ireturn, 1))) rfl
  · exact fun d st M Q l1 l2 l3 x => jx_ev_st (jx_fok (by decide +kernel : decode (jx_mb 22) 17 = .ok (.aload_n 0, 1))) rfl rfl rfl
  · exact fun d lv st M Q k hk => jx_k_gf (jx_fok (by decide +kernel : decode (jx_mb 22) 18 = .ok (.getfield 22, 3))) rfl hk rfl
  · exact fun d lv st M Q x => jx_k_b1n (jx_fok (by decide +kernel : decode (jx_mb 22) 21 = .ok (.ifCond .ne 5, 3))) rfl jx_hNe
  · exact fun d lv st M Q => jx_ev_st (jx_fok (by decide +kernel : decode (jx_mb 22) 24 = .ok (.iconst 1, 1))) rfl rfl rfl
  · exact fun d lv M Q x => jx_k_ri (jx_fok (by decide +kernel : decode (jx_mb 22) 25 = .ok (.ireturn, 1))) rfl
  · exact fun d st M Q l0 l1 l2 x => jx_ev_st (jx_fok (by decide +kernel : decode (jx_mb 22) 26 = .ok (.iload_n 3, 1))) rfl rfl rfl
  · exact fun d lv st M Q x => jx_k_b1 (jx_fok (by decide +kernel : decode (jx_mb 22) 27 = .ok (.ifCond .ge 5, 3))) rfl jx_hGe
  · exact fun d lv st M Q => jx_ev_st (jx_fok (by decide +kernel : decode (jx_mb 22) 30 = .ok (.iconst 4, 1))) rfl rfl rfl
  · exact fun d lv M Q x => jx_k_ri (jx_fok (by decide +kernel : decode (jx_mb 22) 31 = .ok (.ireturn, 1))) rfl
  · exact fun d st M Q l1 l2 l3 x => jx_ev_st (jx_fok (by decide +kernel : decode (jx_mb 22) 32 = .ok (.aload_n 0, 1))) rfl rfl rfl
  · exact fun d st M Q l0 l1 l3 x => jx_ev_st (jx_fok (by decide +kernel : decode (jx_mb 22) 33 = .ok (.iload_n 2, 1))) rfl rfl rfl
  · exact fun d st M Q l0 l1 l2 x => jx_ev_st (jx_fok (by decide +kernel : decode (jx_mb 22) 34 = .ok (.iload_n 3, 1))) rfl rfl rfl
  · exact fun d lv M Q a0 a1 a2 hk => jx_ev_ci (jx_fok (by decide +kernel : decode (jx_mb 22) 35 = .ok (.invokevirtual 26, 3))) rfl (jx_ccV (As := [.int a1, .int a0]) (rest := []) rfl rfl rfl hk rfl rfl) (by decide)
  · exact fun d lv st M Q x => jx_k_b1 (jx_fok (by decide +kernel : decode (jx_mb 22) 38 = .ok (.ifCond .eq 7, 3))) rfl jx_hEq
  · exact fun d lv st M Q => jx_ev_st (jx_fok (by decide +kernel : decode (jx_mb 22) 41 = .ok (.iconst 0, 1))) rfl rfl rfl
  · exact fun d lv st M Q => jx_k_goto (jx_fok (by decide +kernel : decode (jx_mb 22) 42 = .ok (.goto 4, 3))) rfl
  · exact fun d lv st M Q => jx_ev_st (jx_fok (by decide +kernel : decode (jx_mb 22) 45 = .ok (.iconst 3, 1))) rfl rfl rfl
  · exact fun d lv M Q x => jx_k_ri (jx_fok (by decide +kernel : decode (jx_mb 22) 46 = .ok (.ireturn, 1))) rfl
theorem kX4_faultOfCells (d : Nat) (M : jx_M) (q : Int32 → jx_M → Prop) (a0 a1 a2 a3 : Value) : jx_I d 22 [a0, a1, a2, a3] M q ↔ jx_Ev d 22 0 [some a0, some a1, some a2, some a3] [] M (jx_qI q) := Iff.rfl
set_option maxRecDepth 100000 in
theorem eX4_read :
  (∀ (d : Nat) (st : List Value) (M : jx_M) (Q : jx_Po) (l0 : Option Value) (x : Int32), jx_Ev d 23 0 [l0, some (.int x)] st M Q ↔ jx_Ev d 23 1 [l0, some (.int x)] (.int x :: st) M Q) ∧
  (∀ (d : Nat) (lv : List (Option Value)) (st : List Value) (M : jx_M) (Q : jx_Po) (x : Int32), jx_Ev d 23 1 lv (.int x :: st) M Q ↔ (if x < 0 then jx_Ev d 23 21 lv st M Q else jx_Ev d 23 4 lv st M Q)) ∧
  (∀ (d : Nat) (st : List Value) (M : jx_M) (Q : jx_Po) (l0 : Option Value) (x : Int32), jx_Ev d 23 4 [l0, some (.int x)] st M Q ↔ jx_Ev d 23 5 [l0, some (.int x)] (.int x :: st) M Q) ∧
  (∀ (d : Nat) (st : List Value) (M : jx_M) (Q : jx_Po) (l1 : Option Value) (x : Nat), jx_Ev d 23 5 [some (.ref x), l1] st M Q ↔ jx_Ev d 23 6 [some (.ref x), l1] (.ref x :: st) M Q) ∧
  (∀ (d : Nat) (lv : List (Option Value)) (st : List Value) (M : jx_M) (Q : jx_Po) (k : Nat) (hk : jx_cl k = 4), jx_Ev d 23 6 lv (.ref k :: st) M Q ↔ jx_Ev d 23 9 lv (.int (M k 2) :: st) M Q) ∧
  (∀ (d : Nat) (lv : List (Option Value)) (st : List Value) (M : jx_M) (Q : jx_Po) (x z : Int32), jx_Ev d 23 9 lv (.int z :: .int x :: st) M Q ↔ (if z ≤ x then jx_Ev d 23 21 lv st M Q else jx_Ev d 23 12 lv st M Q)) ∧
  (∀ (d : Nat) (st : List Value) (M : jx_M) (Q : jx_Po) (l1 : Option Value) (x : Nat), jx_Ev d 23 12 [some (.ref x), l1] st M Q ↔ jx_Ev d 23 13 [some (.ref x), l1] (.ref x :: st) M Q) ∧
  (∀ (d : Nat) (lv : List (Option Value)) (st : List Value) (M : jx_M) (Q : jx_Po) (k : Nat) (hk : jx_cl k = 4), jx_Ev d 23 13 lv (.ref k :: st) M Q ↔ jx_Ev d 23 16 lv (.ref (k + 1) :: st) M Q) ∧
  (∀ (d : Nat) (st : List Value) (M : jx_M) (Q : jx_Po) (l0 : Option Value) (x : Int32), jx_Ev d 23 16 [l0, some (.int x)] st M Q ↔ jx_Ev d 23 17 [l0, some (.int x)] (.int x :: st) M Q) ∧
  (∀ (d : Nat) (lv : List (Option Value)) (st : List Value) (M : jx_M) (Q : jx_Po) (x : Int32) (a : Nat) (ha : jx_cl a = 9), jx_Ev d 23 17 lv (.int x :: .ref a :: st) M Q ↔ (vp_in x (jx_sz a) ∧ jx_Ev d 23 18 lv (.int (M a x.toNatClampNeg) :: st) M Q)) ∧
  (∀ (d : Nat) (lv : List (Option Value)) (st : List Value) (M : jx_M) (Q : jx_Po), jx_Ev d 23 18 lv st M Q ↔ jx_Ev d 23 22 lv st M Q) ∧
  (∀ (d : Nat) (lv : List (Option Value)) (st : List Value) (M : jx_M) (Q : jx_Po), jx_Ev d 23 21 lv st M Q ↔ jx_Ev d 23 22 lv (.int 0 :: st) M Q) ∧
  (∀ (d : Nat) (lv : List (Option Value)) (M : jx_M) (Q : jx_Po) (x : Int32), jx_Ev d 23 22 lv [.int x] M Q ↔ Q [.int x] M) := by
  refine ⟨?_, ?_, ?_, ?_, ?_, ?_, ?_, ?_, ?_, ?_, ?_, ?_, ?_⟩
  · exact fun d st M Q l0 x => jx_ev_st (jx_fok (by decide +kernel : decode (jx_mb 23) 0 = .ok (.iload_n 1, 1))) rfl rfl rfl
  · exact fun d lv st M Q x => jx_k_b1 (jx_fok (by decide +kernel : decode (jx_mb 23) 1 = .ok (.ifCond .lt 20, 3))) rfl jx_hLt
  · exact fun d st M Q l0 x => jx_ev_st (jx_fok (by decide +kernel : decode (jx_mb 23) 4 = .ok (.iload_n 1, 1))) rfl rfl rfl
  · exact fun d st M Q l1 x => jx_ev_st (jx_fok (by decide +kernel : decode (jx_mb 23) 5 = .ok (.aload_n 0, 1))) rfl rfl rfl
  · exact fun d lv st M Q k hk => jx_k_gf (jx_fok (by decide +kernel : decode (jx_mb 23) 6 = .ok (.getfield 19, 3))) rfl hk rfl
  · exact fun d lv st M Q x z => jx_k_b2 (jx_fok (by decide +kernel : decode (jx_mb 23) 9 = .ok (.if_icmp .ge 12, 3))) rfl jx_hGe
  · exact fun d st M Q l1 x => jx_ev_st (jx_fok (by decide +kernel : decode (jx_mb 23) 12 = .ok (.aload_n 0, 1))) rfl rfl rfl
  · exact fun d lv st M Q k hk => jx_k_gf (jx_fok (by decide +kernel : decode (jx_mb 23) 13 = .ok (.getfield 9, 3))) rfl hk rfl
  · exact fun d st M Q l0 x => jx_ev_st (jx_fok (by decide +kernel : decode (jx_mb 23) 16 = .ok (.iload_n 1, 1))) rfl rfl rfl
  · exact fun d lv st M Q x a ha => jx_k_al (jx_fok (by decide +kernel : decode (jx_mb 23) 17 = .ok (.iaload, 1))) ha
  · exact fun d lv st M Q => jx_k_goto (jx_fok (by decide +kernel : decode (jx_mb 23) 18 = .ok (.goto 4, 3))) rfl
  · exact fun d lv st M Q => jx_ev_st (jx_fok (by decide +kernel : decode (jx_mb 23) 21 = .ok (.iconst 0, 1))) rfl rfl rfl
  · exact fun d lv M Q x => jx_k_ri (jx_fok (by decide +kernel : decode (jx_mb 23) 22 = .ok (.ireturn, 1))) rfl
theorem kX4_read (d : Nat) (M : jx_M) (q : Int32 → jx_M → Prop) (a0 a1 : Value) : jx_I d 23 [a0, a1] M q ↔ jx_Ev d 23 0 [some a0, some a1] [] M (jx_qI q) := Iff.rfl
set_option maxRecDepth 100000 in
theorem eX4_write :
  (∀ (d : Nat) (st : List Value) (M : jx_M) (Q : jx_Po) (l0 l2 : Option Value) (x : Int32), jx_Ev d 24 0 [l0, some (.int x), l2] st M Q ↔ jx_Ev d 24 1 [l0, some (.int x), l2] (.int x :: st) M Q) ∧
  (∀ (d : Nat) (lv : List (Option Value)) (st : List Value) (M : jx_M) (Q : jx_Po) (x : Int32), jx_Ev d 24 1 lv (.int x :: st) M Q ↔ (if x < 0 then jx_Ev d 24 12 lv st M Q else jx_Ev d 24 4 lv st M Q)) ∧
  (∀ (d : Nat) (st : List Value) (M : jx_M) (Q : jx_Po) (l0 l2 : Option Value) (x : Int32), jx_Ev d 24 4 [l0, some (.int x), l2] st M Q ↔ jx_Ev d 24 5 [l0, some (.int x), l2] (.int x :: st) M Q) ∧
  (∀ (d : Nat) (st : List Value) (M : jx_M) (Q : jx_Po) (l1 l2 : Option Value) (x : Nat), jx_Ev d 24 5 [some (.ref x), l1, l2] st M Q ↔ jx_Ev d 24 6 [some (.ref x), l1, l2] (.ref x :: st) M Q) ∧
  (∀ (d : Nat) (lv : List (Option Value)) (st : List Value) (M : jx_M) (Q : jx_Po) (k : Nat) (hk : jx_cl k = 4), jx_Ev d 24 6 lv (.ref k :: st) M Q ↔ jx_Ev d 24 9 lv (.int (M k 2) :: st) M Q) ∧
  (∀ (d : Nat) (lv : List (Option Value)) (st : List Value) (M : jx_M) (Q : jx_Po) (x z : Int32), jx_Ev d 24 9 lv (.int z :: .int x :: st) M Q ↔ (if x < z then jx_Ev d 24 13 lv st M Q else jx_Ev d 24 12 lv st M Q)) ∧
  (∀ (d : Nat) (lv : List (Option Value)) (M : jx_M) (Q : jx_Po), jx_Ev d 24 12 lv [] M Q ↔ Q [] M) ∧
  (∀ (d : Nat) (st : List Value) (M : jx_M) (Q : jx_Po) (l1 l2 : Option Value) (x : Nat), jx_Ev d 24 13 [some (.ref x), l1, l2] st M Q ↔ jx_Ev d 24 14 [some (.ref x), l1, l2] (.ref x :: st) M Q) ∧
  (∀ (d : Nat) (lv : List (Option Value)) (st : List Value) (M : jx_M) (Q : jx_Po) (k : Nat) (hk : jx_cl k = 4), jx_Ev d 24 14 lv (.ref k :: st) M Q ↔ jx_Ev d 24 17 lv (.int (M k 1) :: st) M Q) ∧
  (∀ (d : Nat) (lv : List (Option Value)) (st : List Value) (M : jx_M) (Q : jx_Po) (x : Int32), jx_Ev d 24 17 lv (.int x :: st) M Q ↔ (if x = 0 then jx_Ev d 24 20 lv st M Q else jx_Ev d 24 31 lv st M Q)) ∧
  (∀ (d : Nat) (st : List Value) (M : jx_M) (Q : jx_Po) (l1 l2 : Option Value) (x : Nat), jx_Ev d 24 20 [some (.ref x), l1, l2] st M Q ↔ jx_Ev d 24 21 [some (.ref x), l1, l2] (.ref x :: st) M Q) ∧
  (∀ (d : Nat) (lv : List (Option Value)) (st : List Value) (M : jx_M) (Q : jx_Po) (k : Nat) (hk : jx_cl k = 4), jx_Ev d 24 21 lv (.ref k :: st) M Q ↔ jx_Ev d 24 24 lv (.ref (k + 1) :: st) M Q) ∧
  (∀ (d : Nat) (st : List Value) (M : jx_M) (Q : jx_Po) (l0 l2 : Option Value) (x : Int32), jx_Ev d 24 24 [l0, some (.int x), l2] st M Q ↔ jx_Ev d 24 25 [l0, some (.int x), l2] (.int x :: st) M Q) ∧
  (∀ (d : Nat) (st : List Value) (M : jx_M) (Q : jx_Po) (l0 l1 : Option Value) (x : Int32), jx_Ev d 24 25 [l0, l1, some (.int x)] st M Q ↔ jx_Ev d 24 26 [l0, l1, some (.int x)] (.int x :: st) M Q) ∧
  (∀ (d : Nat) (lv : List (Option Value)) (st : List Value) (M : jx_M) (Q : jx_Po) (x : Int32), jx_Ev d 24 26 lv (.int x :: st) M Q ↔ jx_Ev d 24 27 lv (.int x.toInt8.toInt32 :: st) M Q) ∧
  (∀ (d : Nat) (lv : List (Option Value)) (st : List Value) (M : jx_M) (Q : jx_Po) (x z : Int32) (a : Nat) (ha : jx_cl a = 9), jx_Ev d 24 27 lv (.int z :: .int x :: .ref a :: st) M Q ↔ (vp_in x (jx_sz a) ∧ jx_Ev d 24 28 lv st (jx_up M a x.toNatClampNeg z) Q)) ∧
  (∀ (d : Nat) (lv : List (Option Value)) (st : List Value) (M : jx_M) (Q : jx_Po), jx_Ev d 24 28 lv st M Q ↔ jx_Ev d 24 57 lv st M Q) ∧
  (∀ (d : Nat) (st : List Value) (M : jx_M) (Q : jx_Po) (l1 l2 : Option Value) (x : Nat), jx_Ev d 24 31 [some (.ref x), l1, l2] st M Q ↔ jx_Ev d 24 32 [some (.ref x), l1, l2] (.ref x :: st) M Q) ∧
  (∀ (d : Nat) (lv : List (Option Value)) (st : List Value) (M : jx_M) (Q : jx_Po) (k : Nat) (hk : jx_cl k = 4), jx_Ev d 24 32 lv (.ref k :: st) M Q ↔ jx_Ev d 24 35 lv (.int (M k 1) :: st) M Q) ∧
  (∀ (d : Nat) (lv : List (Option Value)) (st : List Value) (M : jx_M) (Q : jx_Po), jx_Ev d 24 35 lv st M Q ↔ jx_Ev d 24 36 lv (.int 1 :: st) M Q) ∧
  (∀ (d : Nat) (lv : List (Option Value)) (st : List Value) (M : jx_M) (Q : jx_Po) (x z : Int32), jx_Ev d 24 36 lv (.int z :: .int x :: st) M Q ↔ (if x = z then jx_Ev d 24 39 lv st M Q else jx_Ev d 24 50 lv st M Q)) ∧
  (∀ (d : Nat) (st : List Value) (M : jx_M) (Q : jx_Po) (l1 l2 : Option Value) (x : Nat), jx_Ev d 24 39 [some (.ref x), l1, l2] st M Q ↔ jx_Ev d 24 40 [some (.ref x), l1, l2] (.ref x :: st) M Q) ∧
  (∀ (d : Nat) (lv : List (Option Value)) (st : List Value) (M : jx_M) (Q : jx_Po) (k : Nat) (hk : jx_cl k = 4), jx_Ev d 24 40 lv (.ref k :: st) M Q ↔ jx_Ev d 24 43 lv (.ref (k + 1) :: st) M Q) ∧
  (∀ (d : Nat) (st : List Value) (M : jx_M) (Q : jx_Po) (l0 l2 : Option Value) (x : Int32), jx_Ev d 24 43 [l0, some (.int x), l2] st M Q ↔ jx_Ev d 24 44 [l0, some (.int x), l2] (.int x :: st) M Q) ∧
  (∀ (d : Nat) (st : List Value) (M : jx_M) (Q : jx_Po) (l0 l1 : Option Value) (x : Int32), jx_Ev d 24 44 [l0, l1, some (.int x)] st M Q ↔ jx_Ev d 24 45 [l0, l1, some (.int x)] (.int x :: st) M Q) ∧
  (∀ (d : Nat) (lv : List (Option Value)) (st : List Value) (M : jx_M) (Q : jx_Po) (x : Int32), jx_Ev d 24 45 lv (.int x :: st) M Q ↔ jx_Ev d 24 46 lv (.int x.toInt16.toInt32 :: st) M Q) ∧
  (∀ (d : Nat) (lv : List (Option Value)) (st : List Value) (M : jx_M) (Q : jx_Po) (x z : Int32) (a : Nat) (ha : jx_cl a = 9), jx_Ev d 24 46 lv (.int z :: .int x :: .ref a :: st) M Q ↔ (vp_in x (jx_sz a) ∧ jx_Ev d 24 47 lv st (jx_up M a x.toNatClampNeg z) Q)) ∧
  (∀ (d : Nat) (lv : List (Option Value)) (st : List Value) (M : jx_M) (Q : jx_Po), jx_Ev d 24 47 lv st M Q ↔ jx_Ev d 24 57 lv st M Q) ∧
  (∀ (d : Nat) (st : List Value) (M : jx_M) (Q : jx_Po) (l1 l2 : Option Value) (x : Nat), jx_Ev d 24 50 [some (.ref x), l1, l2] st M Q ↔ jx_Ev d 24 51 [some (.ref x), l1, l2] (.ref x :: st) M Q) ∧
  (∀ (d : Nat) (lv : List (Option Value)) (st : List Value) (M : jx_M) (Q : jx_Po) (k : Nat) (hk : jx_cl k = 4), jx_Ev d 24 51 lv (.ref k :: st) M Q ↔ jx_Ev d 24 54 lv (.ref (k + 1) :: st) M Q) ∧
  (∀ (d : Nat) (st : List Value) (M : jx_M) (Q : jx_Po) (l0 l2 : Option Value) (x : Int32), jx_Ev d 24 54 [l0, some (.int x), l2] st M Q ↔ jx_Ev d 24 55 [l0, some (.int x), l2] (.int x :: st) M Q) ∧
  (∀ (d : Nat) (st : List Value) (M : jx_M) (Q : jx_Po) (l0 l1 : Option Value) (x : Int32), jx_Ev d 24 55 [l0, l1, some (.int x)] st M Q ↔ jx_Ev d 24 56 [l0, l1, some (.int x)] (.int x :: st) M Q) ∧
  (∀ (d : Nat) (lv : List (Option Value)) (st : List Value) (M : jx_M) (Q : jx_Po) (x z : Int32) (a : Nat) (ha : jx_cl a = 9), jx_Ev d 24 56 lv (.int z :: .int x :: .ref a :: st) M Q ↔ (vp_in x (jx_sz a) ∧ jx_Ev d 24 57 lv st (jx_up M a x.toNatClampNeg z) Q)) ∧
  (∀ (d : Nat) (lv : List (Option Value)) (M : jx_M) (Q : jx_Po), jx_Ev d 24 57 lv [] M Q ↔ Q [] M) := by
  refine ⟨?_, ?_, ?_, ?_, ?_, ?_, ?_, ?_, ?_, ?_, ?_, ?_, ?_, ?_, ?_, ?_, ?_, ?_, ?_, ?_, ?_, ?_, ?_, ?_, ?_, ?_, ?_, ?_, ?_, ?_, ?_, ?_, ?_, ?_⟩
  · exact fun d st M Q l0 l2 x => jx_ev_st (jx_fok (by decide +kernel : decode (jx_mb 24) 0 = .ok (.iload_n 1, 1))) rfl rfl rfl
  · exact fun d lv st M Q x => jx_k_b1 (jx_fok (by decide +kernel : decode (jx_mb 24) 1 = .ok (.ifCond .lt 11, 3))) rfl jx_hLt
  · exact fun d st M Q l0 l2 x => jx_ev_st (jx_fok (by decide +kernel : decode (jx_mb 24) 4 = .ok (.iload_n 1, 1))) rfl rfl rfl
  · exact fun d st M Q l1 l2 x => jx_ev_st (jx_fok (by decide +kernel : decode (jx_mb 24) 5 = .ok (.aload_n 0, 1))) rfl rfl rfl
  · exact fun d lv st M Q k hk => jx_k_gf (jx_fok (by decide +kernel : decode (jx_mb 24) 6 = .ok (.getfield 19, 3))) rfl hk rfl
  · exact fun d lv st M Q x z => jx_k_b2 (jx_fok (by decide +kernel : decode (jx_mb 24) 9 = .ok (.if_icmp .lt 4, 3))) rfl jx_hLt
  · exact fun d lv M Q => jx_k_rv (jx_fok (by decide +kernel : decode (jx_mb 24) 12 = .ok (.return_, 1))) rfl
  · exact fun d st M Q l1 l2 x => jx_ev_st (jx_fok (by decide +kernel : decode (jx_mb 24) 13 = .ok (.aload_n 0, 1))) rfl rfl rfl
  · exact fun d lv st M Q k hk => jx_k_gf (jx_fok (by decide +kernel : decode (jx_mb 24) 14 = .ok (.getfield 15, 3))) rfl hk rfl
  · exact fun d lv st M Q x => jx_k_b1n (jx_fok (by decide +kernel : decode (jx_mb 24) 17 = .ok (.ifCond .ne 14, 3))) rfl jx_hNe
  · exact fun d st M Q l1 l2 x => jx_ev_st (jx_fok (by decide +kernel : decode (jx_mb 24) 20 = .ok (.aload_n 0, 1))) rfl rfl rfl
  · exact fun d lv st M Q k hk => jx_k_gf (jx_fok (by decide +kernel : decode (jx_mb 24) 21 = .ok (.getfield 9, 3))) rfl hk rfl
  · exact fun d st M Q l0 l2 x => jx_ev_st (jx_fok (by decide +kernel : decode (jx_mb 24) 24 = .ok (.iload_n 1, 1))) rfl rfl rfl
  · exact fun d st M Q l0 l1 x => jx_ev_st (jx_fok (by decide +kernel : decode (jx_mb 24) 25 = .ok (.iload_n 2, 1))) rfl rfl rfl
  · exact fun d lv st M Q x => jx_ev_st (jx_fok (by decide +kernel : decode (jx_mb 24) 26 = .ok (.i2b, 1))) rfl rfl rfl
  · exact fun d lv st M Q x z a ha => jx_k_as (jx_fok (by decide +kernel : decode (jx_mb 24) 27 = .ok (.iastore, 1))) ha
  · exact fun d lv st M Q => jx_k_goto (jx_fok (by decide +kernel : decode (jx_mb 24) 28 = .ok (.goto 29, 3))) rfl
  · exact fun d st M Q l1 l2 x => jx_ev_st (jx_fok (by decide +kernel : decode (jx_mb 24) 31 = .ok (.aload_n 0, 1))) rfl rfl rfl
  · exact fun d lv st M Q k hk => jx_k_gf (jx_fok (by decide +kernel : decode (jx_mb 24) 32 = .ok (.getfield 15, 3))) rfl hk rfl
  · exact fun d lv st M Q => jx_ev_st (jx_fok (by decide +kernel : decode (jx_mb 24) 35 = .ok (.iconst 1, 1))) rfl rfl rfl
  · exact fun d lv st M Q x z => jx_k_b2n (jx_fok (by decide +kernel : decode (jx_mb 24) 36 = .ok (.if_icmp .ne 14, 3))) rfl jx_hNe
  · exact fun d st M Q l1 l2 x => jx_ev_st (jx_fok (by decide +kernel : decode (jx_mb 24) 39 = .ok (.aload_n 0, 1))) rfl rfl rfl
  · exact fun d lv st M Q k hk => jx_k_gf (jx_fok (by decide +kernel : decode (jx_mb 24) 40 = .ok (.getfield 9, 3))) rfl hk rfl
  · exact fun d st M Q l0 l2 x => jx_ev_st (jx_fok (by decide +kernel : decode (jx_mb 24) 43 = .ok (.iload_n 1, 1))) rfl rfl rfl
  · exact fun d st M Q l0 l1 x => jx_ev_st (jx_fok (by decide +kernel : decode (jx_mb 24) 44 = .ok (.iload_n 2, 1))) rfl rfl rfl
  · exact fun d lv st M Q x => jx_ev_st (jx_fok (by decide +kernel : decode (jx_mb 24) 45 = .ok (.i2s, 1))) rfl rfl rfl
  · exact fun d lv st M Q x z a ha => jx_k_as (jx_fok (by decide +kernel : decode (jx_mb 24) 46 = .ok (.iastore, 1))) ha
  · exact fun d lv st M Q => jx_k_goto (jx_fok (by decide +kernel : decode (jx_mb 24) 47 = .ok (.goto 10, 3))) rfl
  · exact fun d st M Q l1 l2 x => jx_ev_st (jx_fok (by decide +kernel : decode (jx_mb 24) 50 = .ok (.aload_n 0, 1))) rfl rfl rfl
  · exact fun d lv st M Q k hk => jx_k_gf (jx_fok (by decide +kernel : decode (jx_mb 24) 51 = .ok (.getfield 9, 3))) rfl hk rfl
  · exact fun d st M Q l0 l2 x => jx_ev_st (jx_fok (by decide +kernel : decode (jx_mb 24) 54 = .ok (.iload_n 1, 1))) rfl rfl rfl
  · exact fun d st M Q l0 l1 x => jx_ev_st (jx_fok (by decide +kernel : decode (jx_mb 24) 55 = .ok (.iload_n 2, 1))) rfl rfl rfl
  · exact fun d lv st M Q x z a ha => jx_k_as (jx_fok (by decide +kernel : decode (jx_mb 24) 56 = .ok (.iastore, 1))) ha
  · exact fun d lv M Q => jx_k_rv (jx_fok (by decide +kernel : decode (jx_mb 24) 57 = .ok (.return_, 1))) rfl
theorem kX4_write (d : Nat) (M : jx_M) (q : jx_M → Prop) (a0 a1 a2 : Value) : jx_V d 24 [a0, a1, a2] M q ↔ jx_Ev d 24 0 [some a0, some a1, some a2] [] M (jx_qV q) := Iff.rfl
