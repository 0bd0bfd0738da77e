set_option maxRecDepth 100000 in
theorem eX5_measure :
  (∀ (d : Nat) (st : List Value) (M : jx_M) (Q : jx_Po) (l1 l2 l3 : Option Value) (x : Nat), jx_Ev d 25 0 [some (.ref x), l1, l2, l3] st M Q ↔ jx_Ev d 25 1 [some (.ref x), l1, l2, l3] (.ref x :: st) M Q) ∧
  (∀ (d : Nat) (st : List Value) (M : jx_M) (Q : jx_Po) (l0 l2 l3 : Option Value) (x : Nat), jx_Ev d 25 1 [l0, some (.ref x), l2, l3] st M Q ↔ jx_Ev d 25 2 [l0, some (.ref x), l2, l3] (.ref x :: st) M Q) ∧
  (∀ (d : Nat) (lv : List (Option Value)) (st : List Value) (M : jx_M) (Q : jx_Po) (k : Nat) (hk : jx_cl k = 1), jx_Ev d 25 2 lv (.ref k :: st) M Q ↔ jx_Ev d 25 5 lv (.int (M k 6) :: st) M Q) ∧
  (∀ (d : Nat) (lv : List (Option Value)) (st : List Value) (M : jx_M) (Q : jx_Po), jx_Ev d 25 5 lv st M Q ↔ jx_Ev d 25 7 lv (.int 6 :: st) M Q) ∧
  (∀ (d : Nat) (lv : List (Option Value)) (M : jx_M) (Q : jx_Po) (a0 : Int32) (a1 : Int32) (a2 : Nat), jx_Ev (d + 1) 25 7 lv [.int a0, .int a1, .ref a2] M Q ↔ jx_Ev (d + 1) 25 10 lv (.int (if a0 < a1 then a0 else a1) :: [.ref a2]) M Q) ∧
  (∀ (d : Nat) (lv : List (Option Value)) (st : List Value) (M : jx_M) (Q : jx_Po) (x : Int32), jx_Ev d 25 10 lv (.int x :: .ref 13 :: st) M Q ↔ jx_Ev d 25 13 lv st (jx_up M 13 2 x) Q) ∧
  (∀ (d : Nat) (st : List Value) (M : jx_M) (Q : jx_Po) (l1 l2 l3 : Option Value) (x : Nat), jx_Ev d 25 13 [some (.ref x), l1, l2, l3] st M Q ↔ jx_Ev d 25 14 [some (.ref x), l1, l2, l3] (.ref x :: st) M Q) ∧
  (∀ (d : Nat) (st : List Value) (M : jx_M) (Q : jx_Po) (l0 l2 l3 : Option Value) (x : Nat), jx_Ev d 25 14 [l0, some (.ref x), l2, l3] st M Q ↔ jx_Ev d 25 15 [l0, some (.ref x), l2, l3] (.ref x :: st) M Q) ∧
  (∀ (d : Nat) (lv : List (Option Value)) (st : List Value) (M : jx_M) (Q : jx_Po) (k : Nat) (hk : jx_cl k = 1), jx_Ev d 25 15 lv (.ref k :: st) M Q ↔ jx_Ev d 25 18 lv (.int (M k 8) :: st) M Q) ∧
  (∀ (d : Nat) (lv : List (Option Value)) (st : List Value) (M : jx_M) (Q : jx_Po) (x : Int32), jx_Ev d 25 18 lv (.int x :: .ref 13 :: st) M Q ↔ jx_Ev d 25 21 lv st (jx_up M 13 3 x) Q) ∧
  (∀ (d : Nat) (lv : List (Option Value)) (st : List Value) (M : jx_M) (Q : jx_Po), jx_Ev d 25 21 lv st M Q ↔ jx_Ev d 25 22 lv (.int 0 :: st) M Q) ∧
  (∀ (d : Nat) (st : List Value) (M : jx_M) (Q : jx_Po) (l0 l1 l2 l3 : Option Value) (x : Int32), jx_Ev d 25 22 [l0, l1, l2, l3] (.int x :: st) M Q ↔ jx_Ev d 25 23 [l0, l1, l2, some (.int x)] st M Q) ∧
  (∀ (d : Nat) (st : List Value) (M : jx_M) (Q : jx_Po) (l1 l2 l3 : Option Value) (x : Nat), jx_Ev d 25 24 [some (.ref x), l1, l2, l3] st M Q ↔ jx_Ev d 25 25 [some (.ref x), l1, l2, l3] (.ref x :: st) M Q) ∧
  (∀ (d : Nat) (lv : List (Option Value)) (st : List Value) (M : jx_M) (Q : jx_Po), jx_Ev d 25 25 lv (.ref 13 :: st) M Q ↔ jx_Ev d 25 28 lv (.int (M 13 2) :: st) M Q) ∧
  (∀ (d : Nat) (lv : List (Option Value)) (st : List Value) (M : jx_M) (Q : jx_Po) (x z : Int32), jx_Ev d 25 28 lv (.int z :: .int x :: st) M Q ↔ (if z ≤ x then jx_Ev d 25 49 lv st M Q else jx_Ev d 25 31 lv st M Q)) ∧
  (∀ (d : Nat) (st : List Value) (M : jx_M) (Q : jx_Po) (l1 l2 l3 : Option Value) (x : Nat), jx_Ev d 25 31 [some (.ref x), l1, l2, l3] st M Q ↔ jx_Ev d 25 32 [some (.ref x), l1, l2, l3] (.ref x :: st) M Q) ∧
  (∀ (d : Nat) (lv : List (Option Value)) (st : List Value) (M : jx_M) (Q : jx_Po), jx_Ev d 25 32 lv (.ref 13 :: st) M Q ↔ jx_Ev d 25 35 lv (.ref 15 :: st) M Q) ∧
  (∀ (d : Nat) (st : List Value) (M : jx_M) (Q : jx_Po) (l0 l1 l2 : Option Value) (x : Int32), jx_Ev d 25 35 [l0, l1, l2, some (.int x)] st M Q ↔ jx_Ev d 25 36 [l0, l1, l2, some (.int x)] (.int x :: st) M Q) ∧
  (∀ (d : Nat) (st : List Value) (M : jx_M) (Q : jx_Po) (l0 l2 l3 : Option Value) (x : Nat), jx_Ev d 25 36 [l0, some (.ref x), l2, l3] st M Q ↔ jx_Ev d 25 37 [l0, some (.ref x), l2, l3] (.ref x :: st) M Q) ∧
  (∀ (d : Nat) (st : List Value) (M : jx_M) (Q : jx_Po) (l0 l1 l2 : Option Value) (x : Int32), jx_Ev d 25 37 [l0, l1, l2, some (.int x)] st M Q ↔ jx_Ev d 25 38 [l0, l1, l2, some (.int x)] (.int x :: st) M Q) ∧
  (∀ (d : Nat) (st : List Value) (M : jx_M) (Q : jx_Po) (l0 l1 l3 : Option Value) (x : Int32), jx_Ev d 25 38 [l0, l1, some (.int x), l3] st M Q ↔ jx_Ev d 25 39 [l0, l1, some (.int x), l3] (.int x :: st) M Q) ∧
  (∀ (d : Nat) (lv : List (Option Value)) (M : jx_M) (Q : jx_Po) (a0 : Int32) (a1 : Int32) (a2 : Nat) (a3 : Int32) (a4 : Nat) (hk : jx_cl a2 = 1), jx_Ev (d + 1) 25 39 lv [.int a0, .int a1, .ref a2, .int a3, .ref a4] M Q ↔ jx_I d 10 [.ref a2, .int a1, .int a0] M (fun x M => jx_Ev (d + 1) 25 42 lv (.int x :: [.int a3, .ref a4]) M Q)) ∧
  (∀ (d : Nat) (lv : List (Option Value)) (st : List Value) (M : jx_M) (Q : jx_Po) (x z : Int32) (a : Nat) (ha : jx_cl a = 9), jx_Ev d 25 42 lv (.int z :: .int x :: .ref a :: st) M Q ↔ (vp_in x (jx_sz a) ∧ jx_Ev d 25 43 lv st (jx_up M a x.toNatClampNeg z) Q)) ∧
  (∀ (d : Nat) (st : List Value) (M : jx_M) (Q : jx_Po) (l0 l1 l2 : Option Value) (x : Int32), jx_Ev d 25 43 [l0, l1, l2, some (.int x)] st M Q ↔ jx_Ev d 25 46 [l0, l1, l2, some (.int (x + 1))] st M Q) ∧
  (∀ (d : Nat) (lv : List (Option Value)) (st : List Value) (M : jx_M) (Q : jx_Po), jx_Ev d 25 46 lv st M Q ↔ jx_Ev d 25 23 lv st M Q) ∧
  (∀ (d : Nat) (lv : List (Option Value)) (M : jx_M) (Q : jx_Po), jx_Ev d 25 49 lv [] M Q ↔ Q [] M) := by
  refine ⟨?_, ?_, ?_, ?_, ?_, ?_, ?_, ?_, ?_, ?_, ?_, ?_, ?_, ?_, ?_, ?_, ?_, ?_, ?_, ?_, ?_, ?_, ?_, ?_, ?_, ?_⟩
  · exact fun d st M Q l1 l2 l3 x => jx_ev_st (jx_fok (by decide +kernel : decode (jx_mb 25) 0 = .ok (.aload_n 0, 1))) rfl rfl rfl
  · exact fun d st M Q l0 l2 l3 x => jx_ev_st (jx_fok (by decide +kernel : decode (jx_mb 25) 1 = .ok (.aload_n 1, 1))) rfl rfl rfl
  · exact fun d lv st M Q k hk => jx_k_gf (jx_fok (by decide +kernel : decode (jx_mb 25) 2 = .ok (.getfield 25, 3))) rfl hk rfl
  · exact fun d lv st M Q => jx_ev_st (jx_fok (by decide +kernel : decode (jx_mb 25) 5 = .ok (.bipush 6, 2))) rfl rfl rfl
  · exact fun d lv M Q a0 a1 a2 => jx_k_min (jx_fok (by decide +kernel : decode (jx_mb 25) 7 = .ok (.invokestatic 28, 3))) rfl rfl (Nat.le_of_ble_eq_true rfl)
  · exact fun d lv st M Q x => jx_k_pf0 (jx_fok (by decide +kernel : decode (jx_mb 25) 10 = .ok (.putfield 18, 3))) rfl rfl rfl
  · exact fun d st M Q l1 l2 l3 x => jx_ev_st (jx_fok (by decide +kernel : decode (jx_mb 25) 13 = .ok (.aload_n 0, 1))) rfl rfl rfl
  · exact fun d st M Q l0 l2 l3 x => jx_ev_st (jx_fok (by decide +kernel : decode (jx_mb 25) 14 = .ok (.aload_n 1, 1))) rfl rfl rfl
  · exact fun d lv st M Q k hk => jx_k_gf (jx_fok (by decide +kernel : decode (jx_mb 25) 15 = .ok (.getfield 34, 3))) rfl hk rfl
  · exact fun d lv st M Q x => jx_k_pf0 (jx_fok (by decide +kernel : decode (jx_mb 25) 18 = .ok (.putfield 22, 3))) rfl rfl rfl
  · exact fun d lv st M Q => jx_ev_st (jx_fok (by decide +kernel : decode (jx_mb 25) 21 = .ok (.iconst 0, 1))) rfl rfl rfl
  · exact fun d st M Q l0 l1 l2 l3 x => jx_ev_st (jx_fok (by decide +kernel : decode (jx_mb 25) 22 = .ok (.istore_n 3, 1))) rfl rfl rfl
  · exact fun d st M Q l1 l2 l3 x => jx_ev_st (jx_fok (by decide +kernel : decode (jx_mb 25) 24 = .ok (.aload_n 0, 1))) rfl rfl rfl
  · exact fun d lv st M Q => jx_k_gf (jx_fok (by decide +kernel : decode (jx_mb 25) 25 = .ok (.getfield 18, 3))) rfl rfl rfl
  · exact fun d lv st M Q x z => jx_k_b2 (jx_fok (by decide +kernel : decode (jx_mb 25) 28 = .ok (.if_icmp .ge 21, 3))) rfl jx_hGe
  · exact fun d st M Q l1 l2 l3 x => jx_ev_st (jx_fok (by decide +kernel : decode (jx_mb 25) 31 = .ok (.aload_n 0, 1))) rfl rfl rfl
  · exact fun d lv st M Q => jx_k_gf (jx_fok (by decide +kernel : decode (jx_mb 25) 32 = .ok (.getfield 15, 3))) rfl rfl rfl
  · exact fun d st M Q l0 l1 l2 x => jx_ev_st (jx_fok (by decide +kernel : decode (jx_mb 25) 35 = .ok (.iload_n 3, 1))) rfl rfl rfl
  · exact fun d st M Q l0 l2 l3 x => jx_ev_st (jx_fok (by decide +kernel : decode (jx_mb 25) 36 = .ok (.aload_n 1, 1))) rfl rfl rfl
  · exact fun d st M Q l0 l1 l2 x => jx_ev_st (jx_fok (by decide +kernel : decode (jx_mb 25) 37 = .ok (.iload_n 3, 1))) rfl rfl rfl
  · exact fun d st M Q l0 l1 l3 x => jx_ev_st (jx_fok (by decide +kernel : decode (jx_mb 25) 38 = .ok (.iload_n 2, 1))) rfl rfl rfl
  · exact fun d lv M Q a0 a1 a2 a3 a4 hk => jx_ev_ci (jx_fok (by decide +kernel : decode (jx_mb 25) 39 = .ok (.invokevirtual 35, 3))) rfl (jx_ccV (As := [.int a1, .int a0]) (rest := [.int a3, .ref a4]) rfl rfl rfl hk rfl rfl) (by decide)
  · exact fun d lv st M Q x z a ha => jx_k_as (jx_fok (by decide +kernel : decode (jx_mb 25) 42 = .ok (.iastore, 1))) ha
  · exact fun d st M Q l0 l1 l2 x => jx_ev_st (jx_fok (by decide +kernel : decode (jx_mb 25) 43 = .ok (.iinc 3 1, 3))) rfl rfl rfl
  · exact fun d lv st M Q => jx_k_goto (jx_fok (by decide +kernel : decode (jx_mb 25) 46 = .ok (.goto (-23), 3))) rfl
  · exact fun d lv M Q => jx_k_rv (jx_fok (by decide +kernel : decode (jx_mb 25) 49 = .ok (.return_, 1))) rfl
theorem eX5_measure_23 (d : Nat) (st : List Value) (M : jx_M) (Q : jx_Po) (l0 l1 l2 : Option Value) (x : Int32) : jx_Ev d 25 23 [l0, l1, l2, some (.int x)] st M Q ↔ jx_Ev d 25 24 [l0, l1, l2, some (.int x)] (.int x :: st) M Q := jx_ev_st (jx_fok (by decide +kernel : decode (jx_mb 25) 23 = .ok (.iload_n 3, 1))) rfl rfl rfl
theorem kX5_measure (d : Nat) (M : jx_M) (q : jx_M → Prop) (a0 a1 a2 : Value) : jx_V d 25 [a0, a1, a2] M q ↔ jx_Ev d 25 0 [some a0, some a1, some a2, none] [] M (jx_qV q) := Iff.rfl
set_option maxRecDepth 100000 in
theorem eX5_takeRow :
  (∀ (d : Nat) (lv : List (Option Value)) (st : List Value) (M : jx_M) (Q : jx_Po), jx_Ev d 26 0 lv st M Q ↔ jx_Ev d 26 1 lv (.int 0 :: st) M Q) ∧
  (∀ (d : Nat) (st : List Value) (M : jx_M) (Q : jx_Po) (l0 l1 l2 l3 l4 : Option Value) (x : Int32), jx_Ev d 26 1 [l0, l1, l2, l3, l4] (.int x :: st) M Q ↔ jx_Ev d 26 3 [l0, l1, l2, l3, some (.int x)] st M Q) ∧
  (∀ (d : Nat) (st : List Value) (M : jx_M) (Q : jx_Po) (l0 l1 l2 l4 : Option Value) (x : Int32), jx_Ev d 26 5 [l0, l1, l2, some (.int x), l4] st M Q ↔ jx_Ev d 26 6 [l0, l1, l2, some (.int x), l4] (.int x :: st) M Q) ∧
  (∀ (d : Nat) (lv : List (Option Value)) (st : List Value) (M : jx_M) (Q : jx_Po) (x z : Int32), jx_Ev d 26 6 lv (.int z :: .int x :: st) M Q ↔ (if z ≤ x then jx_Ev d 26 53 lv st M Q else jx_Ev d 26 9 lv st M Q)) ∧
  (∀ (d : Nat) (st : List Value) (M : jx_M) (Q : jx_Po) (l0 l1 l2 l3 : Option Value) (x : Int32), jx_Ev d 26 9 [l0, l1, l2, l3, some (.int x)] st M Q ↔ jx_Ev d 26 11 [l0, l1, l2, l3, some (.int x)] (.int x :: st) M Q) ∧
  (∀ (d : Nat) (lv : List (Option Value)) (st : List Value) (M : jx_M) (Q : jx_Po), jx_Ev d 26 11 lv st M Q ↔ jx_Ev d 26 13 lv (.int 20 :: st) M Q) ∧
  (∀ (d : Nat) (lv : List (Option Value)) (st : List Value) (M : jx_M) (Q : jx_Po) (x z : Int32), jx_Ev d 26 13 lv (.int z :: .int x :: st) M Q ↔ (if z ≤ x then jx_Ev d 26 53 lv st M Q else jx_Ev d 26 16 lv st M Q)) ∧
  (∀ (d : Nat) (st : List Value) (M : jx_M) (Q : jx_Po) (l1 l2 l3 l4 : Option Value) (x : Nat), jx_Ev d 26 16 [some (.ref x), l1, l2, l3, l4] st M Q ↔ jx_Ev d 26 17 [some (.ref x), l1, l2, l3, l4] (.ref x :: st) M Q) ∧
  (∀ (d : Nat) (lv : List (Option Value)) (st : List Value) (M : jx_M) (Q : jx_Po), jx_Ev d 26 17 lv (.ref 13 :: st) M Q ↔ jx_Ev d 26 20 lv (.ref 14 :: st) M Q) ∧
  (∀ (d : Nat) (st : List Value) (M : jx_M) (Q : jx_Po) (l0 l1 l2 l3 : Option Value) (x : Int32), jx_Ev d 26 20 [l0, l1, l2, l3, some (.int x)] st M Q ↔ jx_Ev d 26 22 [l0, l1, l2, l3, some (.int x)] (.int x :: st) M Q) ∧
  (∀ (d : Nat) (st : List Value) (M : jx_M) (Q : jx_Po) (l0 l2 l3 l4 : Option Value) (x : Nat), jx_Ev d 26 22 [l0, some (.ref x), l2, l3, l4] st M Q ↔ jx_Ev d 26 23 [l0, some (.ref x), l2, l3, l4] (.ref x :: st) M Q) ∧
  (∀ (d : Nat) (st : List Value) (M : jx_M) (Q : jx_Po) (l0 l1 l3 l4 : Option Value) (x : Int32), jx_Ev d 26 23 [l0, l1, some (.int x), l3, l4] st M Q ↔ jx_Ev d 26 24 [l0, l1, some (.int x), l3, l4] (.int x :: st) M Q) ∧
  (∀ (d : Nat) (st : List Value) (M : jx_M) (Q : jx_Po) (l0 l1 l2 l3 : Option Value) (x : Int32), jx_Ev d 26 24 [l0, l1, l2, l3, some (.int x)] st M Q ↔ jx_Ev d 26 26 [l0, l1, l2, l3, some (.int x)] (.int x :: st) M Q) ∧
  (∀ (d : Nat) (lv : List (Option Value)) (st : List Value) (M : jx_M) (Q : jx_Po) (x z : Int32), jx_Ev d 26 26 lv (.int z :: .int x :: st) M Q ↔ jx_Ev d 26 27 lv (.int (x + z) :: st) M Q) ∧
  (∀ (d : Nat) (lv : List (Option Value)) (M : jx_M) (Q : jx_Po) (a0 : Int32) (a1 : Nat) (a2 : Int32) (a3 : Nat) (hk : jx_cl a1 = 4), jx_Ev (d + 1) 26 27 lv [.int a0, .ref a1, .int a2, .ref a3] M Q ↔ jx_I d 23 [.ref a1, .int a0] M (fun x M => jx_Ev (d + 1) 26 30 lv (.int x :: [.int a2, .ref a3]) M Q)) ∧
  (∀ (d : Nat) (lv : List (Option Value)) (st : List Value) (M : jx_M) (Q : jx_Po) (x z : Int32) (a : Nat) (ha : jx_cl a = 9), jx_Ev d 26 30 lv (.int z :: .int x :: .ref a :: st) M Q ↔ (vp_in x (jx_sz a) ∧ jx_Ev d 26 31 lv st (jx_up M a x.toNatClampNeg z) Q)) ∧
  (∀ (d : Nat) (st : List Value) (M : jx_M) (Q : jx_Po) (l1 l2 l3 l4 : Option Value) (x : Nat), jx_Ev d 26 31 [some (.ref x), l1, l2, l3, l4] st M Q ↔ jx_Ev d 26 32 [some (.ref x), l1, l2, l3, l4] (.ref x :: st) M Q) ∧
  (∀ (d : Nat) (st : List Value) (M : jx_M) (Q : jx_Po) (l1 l2 l3 l4 : Option Value) (x : Nat), jx_Ev d 26 32 [some (.ref x), l1, l2, l3, l4] st M Q ↔ jx_Ev d 26 33 [some (.ref x), l1, l2, l3, l4] (.ref x :: st) M Q) ∧
  (∀ (d : Nat) (lv : List (Option Value)) (st : List Value) (M : jx_M) (Q : jx_Po), jx_Ev d 26 33 lv (.ref 13 :: st) M Q ↔ jx_Ev d 26 36 lv (.ref 14 :: st) M Q) ∧
  (∀ (d : Nat) (st : List Value) (M : jx_M) (Q : jx_Po) (l0 l1 l2 l3 : Option Value) (x : Int32), jx_Ev d 26 36 [l0, l1, l2, l3, some (.int x)] st M Q ↔ jx_Ev d 26 38 [l0, l1, l2, l3, some (.int x)] (.int x :: st) M Q) ∧
  (∀ (d : Nat) (lv : List (Option Value)) (st : List Value) (M : jx_M) (Q : jx_Po) (x : Int32) (a : Nat) (ha : jx_cl a = 9), jx_Ev d 26 38 lv (.int x :: .ref a :: st) M Q ↔ (vp_in x (jx_sz a) ∧ jx_Ev d 26 39 lv (.int (M a x.toNatClampNeg) :: st) M Q)) ∧
  (∀ (d : Nat) (lv : List (Option Value)) (M : jx_M) (Q : jx_Po) (a0 : Int32), jx_Ev (d + 1) 26 39 lv [.int a0, .ref 13] M Q ↔ jx_I d 27 [.ref 13, .int a0] M (fun x M => jx_Ev (d + 1) 26 42 lv (.int x :: []) M Q)) ∧
  (∀ (d : Nat) (lv : List (Option Value)) (st : List Value) (M : jx_M) (Q : jx_Po) (x : Int32), jx_Ev d 26 42 lv (.int x :: st) M Q ↔ (if x = 0 then jx_Ev d 26 45 lv st M Q else jx_Ev d 26 47 lv st M Q)) ∧
  (∀ (d : Nat) (lv : List (Option Value)) (st : List Value) (M : jx_M) (Q : jx_Po), jx_Ev d 26 45 lv st M Q ↔ jx_Ev d 26 46 lv (.int 0 :: st) M Q) ∧
  (∀ (d : Nat) (lv : List (Option Value)) (M : jx_M) (Q : jx_Po) (x : Int32), jx_Ev d 26 46 lv [.int x] M Q ↔ ((x = 0 ∨ x = 1) ∧ Q [.int x] M)) ∧
  (∀ (d : Nat) (st : List Value) (M : jx_M) (Q : jx_Po) (l0 l1 l2 l3 : Option Value) (x : Int32), jx_Ev d 26 47 [l0, l1, l2, l3, some (.int x)] st M Q ↔ jx_Ev d 26 50 [l0, l1, l2, l3, some (.int (x + 1))] st M Q) ∧
  (∀ (d : Nat) (lv : List (Option Value)) (st : List Value) (M : jx_M) (Q : jx_Po), jx_Ev d 26 50 lv st M Q ↔ jx_Ev d 26 3 lv st M Q) ∧
  (∀ (d : Nat) (lv : List (Option Value)) (st : List Value) (M : jx_M) (Q : jx_Po), jx_Ev d 26 53 lv st M Q ↔ jx_Ev d 26 54 lv (.int 1 :: st) M Q) ∧
  (∀ (d : Nat) (lv : List (Option Value)) (M : jx_M) (Q : jx_Po) (x : Int32), jx_Ev d 26 54 lv [.int x] M Q ↔ ((x = 0 ∨ x = 1) ∧ Q [.int x] M)) := by
  refine ⟨?_, ?_, ?_, ?_, ?_, ?_, ?_, ?_, ?_, ?_, ?_, ?_, ?_, ?_, ?_, ?_, ?_, ?_, ?_, ?_, ?_, ?_, ?_, ?_, ?_, ?_, ?_, ?_, ?_⟩
  · exact fun d lv st M Q => jx_ev_st (jx_fok (by decide +kernel : decode (jx_mb 26) 0 = .ok (.iconst 0, 1))) rfl rfl rfl
  · exact fun d st M Q l0 l1 l2 l3 l4 x => jx_ev_st (jx_fok (by decide +kernel : decode (jx_mb 26) 1 = .ok (.istore 4, 2))) rfl rfl rfl
  · exact fun d st M Q l0 l1 l2 l4 x => jx_ev_st (jx_fok (by decide +kernel : decode (jx_mb 26) 5 = .ok (.iload_n 3, 1))) rfl rfl rfl
  · exact fun d lv st M Q x z => jx_k_b2 (jx_fok (by decide +kernel : decode (jx_mb 26) 6 = .ok (.if_icmp .ge 47, 3))) rfl jx_hGe
  · exact fun d st M Q l0 l1 l2 l3 x => jx_ev_st (jx_fok (by decide +kernel : decode (jx_mb 26) 9 = .ok (.iload 4, 2))) rfl rfl rfl
  · exact fun d lv st M Q => jx_ev_st (jx_fok (by decide +kernel : decode (jx_mb 26) 11 = .ok (.bipush 20, 2))) rfl rfl rfl
  · exact fun d lv st M Q x z => jx_k_b2 (jx_fok (by decide +kernel : decode (jx_mb 26) 13 = .ok (.if_icmp .ge 40, 3))) rfl jx_hGe
  · exact fun d st M Q l1 l2 l3 l4 x => jx_ev_st (jx_fok (by decide +kernel : decode (jx_mb 26) 16 = .ok (.aload_n 0, 1))) rfl rfl rfl
  · exact fun d lv st M Q => jx_k_gf (jx_fok (by decide +kernel : decode (jx_mb 26) 17 = .ok (.getfield 9, 3))) rfl rfl rfl
  · exact fun d st M Q l0 l1 l2 l3 x => jx_ev_st (jx_fok (by decide +kernel : decode (jx_mb 26) 20 = .ok (.iload 4, 2))) rfl rfl rfl
  · exact fun d st M Q l0 l2 l3 l4 x => jx_ev_st (jx_fok (by decide +kernel : decode (jx_mb 26) 22 = .ok (.aload_n 1, 1))) rfl rfl rfl
  · exact fun d st M Q l0 l1 l3 l4 x => jx_ev_st (jx_fok (by decide +kernel : decode (jx_mb 26) 23 = .ok (.iload_n 2, 1))) rfl rfl rfl
  · exact fun d st M Q l0 l1 l2 l3 x => jx_ev_st (jx_fok (by decide +kernel : decode (jx_mb 26) 24 = .ok (.iload 4, 2))) rfl rfl rfl
  · exact fun d lv st M Q x z => jx_ev_st (jx_fok (by decide +kernel : decode (jx_mb 26) 26 = .ok (.iadd, 1))) rfl rfl rfl
  · exact fun d lv M Q a0 a1 a2 a3 hk => jx_ev_ci (jx_fok (by decide +kernel : decode (jx_mb 26) 27 = .ok (.invokevirtual 38, 3))) rfl (jx_ccV (As := [.int a0]) (rest := [.int a2, .ref a3]) rfl rfl rfl hk rfl rfl) (by decide)
  · exact fun d lv st M Q x z a ha => jx_k_as (jx_fok (by decide +kernel : decode (jx_mb 26) 30 = .ok (.iastore, 1))) ha
  · exact fun d st M Q l1 l2 l3 l4 x => jx_ev_st (jx_fok (by decide +kernel : decode (jx_mb 26) 31 = .ok (.aload_n 0, 1))) rfl rfl rfl
  · exact fun d st M Q l1 l2 l3 l4 x => jx_ev_st (jx_fok (by decide +kernel : decode (jx_mb 26) 32 = .ok (.aload_n 0, 1))) rfl rfl rfl
  · exact fun d lv st M Q => jx_k_gf (jx_fok (by decide +kernel : decode (jx_mb 26) 33 = .ok (.getfield 9, 3))) rfl rfl rfl
  · exact fun d st M Q l0 l1 l2 l3 x => jx_ev_st (jx_fok (by decide +kernel : decode (jx_mb 26) 36 = .ok (.iload 4, 2))) rfl rfl rfl
  · exact fun d lv st M Q x a ha => jx_k_al (jx_fok (by decide +kernel : decode (jx_mb 26) 38 = .ok (.iaload, 1))) ha
  · exact fun d lv M Q a0 => jx_ev_ci (jx_fok (by decide +kernel : decode (jx_mb 26) 39 = .ok (.invokevirtual 44, 3))) rfl (jx_ccV (As := [.int a0]) (rest := []) rfl rfl rfl rfl rfl rfl) (by decide)
  · exact fun d lv st M Q x => jx_k_b1n (jx_fok (by decide +kernel : decode (jx_mb 26) 42 = .ok (.ifCond .ne 5, 3))) rfl jx_hNe
  · exact fun d lv st M Q => jx_ev_st (jx_fok (by decide +kernel : decode (jx_mb 26) 45 = .ok (.iconst 0, 1))) rfl rfl rfl
  · exact fun d lv M Q x => jx_k_rz (jx_fok (by decide +kernel : decode (jx_mb 26) 46 = .ok (.ireturn, 1))) rfl
  · exact fun d st M Q l0 l1 l2 l3 x => jx_ev_st (jx_fok (by decide +kernel : decode (jx_mb 26) 47 = .ok (.iinc 4 1, 3))) rfl rfl rfl
  · exact fun d lv st M Q => jx_k_goto (jx_fok (by decide +kernel : decode (jx_mb 26) 50 = .ok (.goto (-47), 3))) rfl
  · exact fun d lv st M Q => jx_ev_st (jx_fok (by decide +kernel : decode (jx_mb 26) 53 = .ok (.iconst 1, 1))) rfl rfl rfl
  · exact fun d lv M Q x => jx_k_rz (jx_fok (by decide +kernel : decode (jx_mb 26) 54 = .ok (.ireturn, 1))) rfl
theorem eX5_takeRow_3 (d : Nat) (st : List Value) (M : jx_M) (Q : jx_Po) (l0 l1 l2 l3 : Option Value) (x : Int32) : jx_Ev d 26 3 [l0, l1, l2, l3, some (.int x)] st M Q ↔ jx_Ev d 26 5 [l0, l1, l2, l3, some (.int x)] (.int x :: st) M Q := jx_ev_st (jx_fok (by decide +kernel : decode (jx_mb 26) 3 = .ok (.iload 4, 2))) rfl rfl rfl
theorem kX5_takeRow (d : Nat) (M : jx_M) (q : Int32 → jx_M → Prop) (a0 a1 a2 a3 : Value) : jx_I d 26 [a0, a1, a2, a3] M q ↔ jx_Ev d 26 0 [some a0, some a1, some a2, some a3, none] [] M (jx_qI q) := Iff.rfl
set_option maxRecDepth 100000 in
theorem eX5_isClap :
  (∀ (d : Nat) (st : List Value) (M : jx_M) (Q : jx_Po) (l0 : Option Value) (x : Int32), jx_Ev d 27 0 [l0, some (.int x)] st M Q ↔ jx_Ev d 27 1 [l0, some (.int x)] (.int x :: st) M Q) ∧
  (∀ (d : Nat) (lv : List (Option Value)) (st : List Value) (M : jx_M) (Q : jx_Po) (x : Int32), jx_Ev d 27 1 lv (.int x :: st) M Q ↔ (if x < 0 then jx_Ev d 27 22 lv st M Q else jx_Ev d 27 4 lv st M Q)) ∧
  (∀ (d : Nat) (st : List Value) (M : jx_M) (Q : jx_Po) (l0 : Option Value) (x : Int32), jx_Ev d 27 4 [l0, some (.int x)] st M Q ↔ jx_Ev d 27 5 [l0, some (.int x)] (.int x :: st) M Q) ∧
  (∀ (d : Nat) (st : List Value) (M : jx_M) (Q : jx_Po) (l1 : Option Value) (x : Nat), jx_Ev d 27 5 [some (.ref x), l1] st M Q ↔ jx_Ev d 27 6 [some (.ref x), l1] (.ref x :: st) M Q) ∧
  (∀ (d : Nat) (lv : List (Option Value)) (st : List Value) (M : jx_M) (Q : jx_Po), jx_Ev d 27 6 lv (.ref 13 :: st) M Q ↔ jx_Ev d 27 9 lv (.int (M 13 2) :: st) M Q) ∧
  (∀ (d : Nat) (lv : List (Option Value)) (st : List Value) (M : jx_M) (Q : jx_Po) (x z : Int32), jx_Ev d 27 9 lv (.int z :: .int x :: st) M Q ↔ (if z ≤ x then jx_Ev d 27 22 lv st M Q else jx_Ev d 27 12 lv st M Q)) ∧
  (∀ (d : Nat) (st : List Value) (M : jx_M) (Q : jx_Po) (l0 : Option Value) (x : Int32), jx_Ev d 27 12 [l0, some (.int x)] st M Q ↔ jx_Ev d 27 13 [l0, some (.int x)] (.int x :: st) M Q) ∧
  (∀ (d : Nat) (lv : List (Option Value)) (st : List Value) (M : jx_M) (Q : jx_Po), jx_Ev d 27 13 lv st M Q ↔ jx_Ev d 27 15 lv (.int 6 :: st) M Q) ∧
  (∀ (d : Nat) (lv : List (Option Value)) (st : List Value) (M : jx_M) (Q : jx_Po) (x z : Int32), jx_Ev d 27 15 lv (.int z :: .int x :: st) M Q ↔ (if z ≤ x then jx_Ev d 27 22 lv st M Q else jx_Ev d 27 18 lv st M Q)) ∧
  (∀ (d : Nat) (lv : List (Option Value)) (st : List Value) (M : jx_M) (Q : jx_Po), jx_Ev d 27 18 lv st M Q ↔ jx_Ev d 27 19 lv (.int 1 :: st) M Q) ∧
  (∀ (d : Nat) (lv : List (Option Value)) (st : List Value) (M : jx_M) (Q : jx_Po), jx_Ev d 27 19 lv st M Q ↔ jx_Ev d 27 23 lv st M Q) ∧
  (∀ (d : Nat) (lv : List (Option Value)) (st : List Value) (M : jx_M) (Q : jx_Po), jx_Ev d 27 22 lv st M Q ↔ jx_Ev d 27 23 lv (.int 0 :: st) M Q) ∧
  (∀ (d : Nat) (lv : List (Option Value)) (M : jx_M) (Q : jx_Po) (x : Int32), jx_Ev d 27 23 lv [.int x] M Q ↔ ((x = 0 ∨ x = 1) ∧ Q [.int x] M)) := by
  refine ⟨?_, ?_, ?_, ?_, ?_, ?_, ?_, ?_, ?_, ?_, ?_, ?_, ?_⟩
  · exact fun d st M Q l0 x => jx_ev_st (jx_fok (by decide +kernel : decode (jx_mb 27) 0 = .ok (.iload_n 1, 1))) rfl rfl rfl
  · exact fun d lv st M Q x => jx_k_b1 (jx_fok (by decide +kernel : decode (jx_mb 27) 1 = .ok (.ifCond .lt 21, 3))) rfl jx_hLt
  · exact fun d st M Q l0 x => jx_ev_st (jx_fok (by decide +kernel : decode (jx_mb 27) 4 = .ok (.iload_n 1, 1))) rfl rfl rfl
  · exact fun d st M Q l1 x => jx_ev_st (jx_fok (by decide +kernel : decode (jx_mb 27) 5 = .ok (.aload_n 0, 1))) rfl rfl rfl
  · exact fun d lv st M Q => jx_k_gf (jx_fok (by decide +kernel : decode (jx_mb 27) 6 = .ok (.getfield 18, 3))) rfl rfl rfl
  · exact fun d lv st M Q x z => jx_k_b2 (jx_fok (by decide +kernel : decode (jx_mb 27) 9 = .ok (.if_icmp .ge 13, 3))) rfl jx_hGe
  · exact fun d st M Q l0 x => jx_ev_st (jx_fok (by decide +kernel : decode (jx_mb 27) 12 = .ok (.iload_n 1, 1))) rfl rfl rfl
  · exact fun d lv st M Q => jx_ev_st (jx_fok (by decide +kernel : decode (jx_mb 27) 13 = .ok (.bipush 6, 2))) rfl rfl rfl
  · exact fun d lv st M Q x z => jx_k_b2 (jx_fok (by decide +kernel : decode (jx_mb 27) 15 = .ok (.if_icmp .ge 7, 3))) rfl jx_hGe
  · exact fun d lv st M Q => jx_ev_st (jx_fok (by decide +kernel : decode (jx_mb 27) 18 = .ok (.iconst 1, 1))) rfl rfl rfl
  · exact fun d lv st M Q => jx_k_goto (jx_fok (by decide +kernel : decode (jx_mb 27) 19 = .ok (.goto 4, 3))) rfl
  · exact fun d lv st M Q => jx_ev_st (jx_fok (by decide +kernel : decode (jx_mb 27) 22 = .ok (.iconst 0, 1))) rfl rfl rfl
  · exact fun d lv M Q x => jx_k_rz (jx_fok (by decide +kernel : decode (jx_mb 27) 23 = .ok (.ireturn, 1))) rfl
theorem kX5_isClap (d : Nat) (M : jx_M) (q : Int32 → jx_M → Prop) (a0 a1 : Value) : jx_I d 27 [a0, a1] M q ↔ jx_Ev d 27 0 [some a0, some a1] [] M (jx_qI q) := Iff.rfl
set_option maxRecDepth 100000 in
theorem eX5_firstWrong :
  (∀ (d : Nat) (lv : List (Option Value)) (st : List Value) (M : jx_M) (Q : jx_Po), jx_Ev d 28 0 lv st M Q ↔ jx_Ev d 28 1 lv (.int 0 :: st) M Q) ∧
  (∀ (d : Nat) (st : List Value) (M : jx_M) (Q : jx_Po) (l0 l1 l2 l3 : Option Value) (x : Int32), jx_Ev d 28 1 [l0, l1, l2, l3] (.int x :: st) M Q ↔ jx_Ev d 28 2 [l0, l1, some (.int x), l3] st M Q) ∧
  (∀ (d : Nat) (lv : List (Option Value)) (st : List Value) (M : jx_M) (Q : jx_Po), jx_Ev d 28 2 lv st M Q ↔ jx_Ev d 28 3 lv (.int 0 :: st) M Q) ∧
  (∀ (d : Nat) (st : List Value) (M : jx_M) (Q : jx_Po) (l0 l1 l2 l3 : Option Value) (x : Int32), jx_Ev d 28 3 [l0, l1, l2, l3] (.int x :: st) M Q ↔ jx_Ev d 28 4 [l0, l1, l2, some (.int x)] st M Q) ∧
  (∀ (d : Nat) (st : List Value) (M : jx_M) (Q : jx_Po) (l0 l2 l3 : Option Value) (x : Int32), jx_Ev d 28 5 [l0, some (.int x), l2, l3] st M Q ↔ jx_Ev d 28 6 [l0, some (.int x), l2, l3] (.int x :: st) M Q) ∧
  (∀ (d : Nat) (lv : List (Option Value)) (st : List Value) (M : jx_M) (Q : jx_Po) (x z : Int32), jx_Ev d 28 6 lv (.int z :: .int x :: st) M Q ↔ (if z ≤ x then jx_Ev d 28 49 lv st M Q else jx_Ev d 28 9 lv st M Q)) ∧
  (∀ (d : Nat) (st : List Value) (M : jx_M) (Q : jx_Po) (l0 l1 l2 : Option Value) (x : Int32), jx_Ev d 28 9 [l0, l1, l2, some (.int x)] st M Q ↔ jx_Ev d 28 10 [l0, l1, l2, some (.int x)] (.int x :: st) M Q) ∧
  (∀ (d : Nat) (lv : List (Option Value)) (st : List Value) (M : jx_M) (Q : jx_Po), jx_Ev d 28 10 lv st M Q ↔ jx_Ev d 28 12 lv (.int 20 :: st) M Q) ∧
  (∀ (d : Nat) (lv : List (Option Value)) (st : List Value) (M : jx_M) (Q : jx_Po) (x z : Int32), jx_Ev d 28 12 lv (.int z :: .int x :: st) M Q ↔ (if z ≤ x then jx_Ev d 28 49 lv st M Q else jx_Ev d 28 15 lv st M Q)) ∧
  (∀ (d : Nat) (st : List Value) (M : jx_M) (Q : jx_Po) (l1 l2 l3 : Option Value) (x : Nat), jx_Ev d 28 15 [some (.ref x), l1, l2, l3] st M Q ↔ jx_Ev d 28 16 [some (.ref x), l1, l2, l3] (.ref x :: st) M Q) ∧
  (∀ (d : Nat) (st : List Value) (M : jx_M) (Q : jx_Po) (l1 l2 l3 : Option Value) (x : Nat), jx_Ev d 28 16 [some (.ref x), l1, l2, l3] st M Q ↔ jx_Ev d 28 17 [some (.ref x), l1, l2, l3] (.ref x :: st) M Q) ∧
  (∀ (d : Nat) (lv : List (Option Value)) (st : List Value) (M : jx_M) (Q : jx_Po), jx_Ev d 28 17 lv (.ref 13 :: st) M Q ↔ jx_Ev d 28 20 lv (.ref 14 :: st) M Q) ∧
  (∀ (d : Nat) (st : List Value) (M : jx_M) (Q : jx_Po) (l0 l1 l2 : Option Value) (x : Int32), jx_Ev d 28 20 [l0, l1, l2, some (.int x)] st M Q ↔ jx_Ev d 28 21 [l0, l1, l2, some (.int x)] (.int x :: st) M Q) ∧
  (∀ (d : Nat) (lv : List (Option Value)) (st : List Value) (M : jx_M) (Q : jx_Po) (x : Int32) (a : Nat) (ha : jx_cl a = 9), jx_Ev d 28 21 lv (.int x :: .ref a :: st) M Q ↔ (vp_in x (jx_sz a) ∧ jx_Ev d 28 22 lv (.int (M a x.toNatClampNeg) :: st) M Q)) ∧
  (∀ (d : Nat) (st : List Value) (M : jx_M) (Q : jx_Po) (l0 l1 l2 : Option Value) (x : Int32), jx_Ev d 28 22 [l0, l1, l2, some (.int x)] st M Q ↔ jx_Ev d 28 23 [l0, l1, l2, some (.int x)] (.int x :: st) M Q) ∧
  (∀ (d : Nat) (st : List Value) (M : jx_M) (Q : jx_Po) (l0 l1 l3 : Option Value) (x : Int32), jx_Ev d 28 23 [l0, l1, some (.int x), l3] st M Q ↔ jx_Ev d 28 24 [l0, l1, some (.int x), l3] (.int x :: st) M Q) ∧
  (∀ (d : Nat) (lv : List (Option Value)) (M : jx_M) (Q : jx_Po) (a0 : Int32) (a1 : Int32) (a2 : Int32), jx_Ev (d + 1) 28 24 lv [.int a0, .int a1, .int a2, .ref 13] M Q ↔ jx_I d 29 [.ref 13, .int a2, .int a1, .int a0] M (fun x M => jx_Ev (d + 1) 28 27 lv (.int x :: []) M Q)) ∧
  (∀ (d : Nat) (lv : List (Option Value)) (st : List Value) (M : jx_M) (Q : jx_Po) (x : Int32), jx_Ev d 28 27 lv (.int x :: st) M Q ↔ (if x = 0 then jx_Ev d 28 30 lv st M Q else jx_Ev d 28 32 lv st M Q)) ∧
  (∀ (d : Nat) (st : List Value) (M : jx_M) (Q : jx_Po) (l0 l1 l2 : Option Value) (x : Int32), jx_Ev d 28 30 [l0, l1, l2, some (.int x)] st M Q ↔ jx_Ev d 28 31 [l0, l1, l2, some (.int x)] (.int x :: st) M Q) ∧
  (∀ (d : Nat) (lv : List (Option Value)) (M : jx_M) (Q : jx_Po) (x : Int32), jx_Ev d 28 31 lv [.int x] M Q ↔ Q [.int x] M) ∧
  (∀ (d : Nat) (st : List Value) (M : jx_M) (Q : jx_Po) (l0 l1 l3 : Option Value) (x : Int32), jx_Ev d 28 32 [l0, l1, some (.int x), l3] st M Q ↔ jx_Ev d 28 33 [l0, l1, some (.int x), l3] (.int x :: st) M Q) ∧
  (∀ (d : Nat) (lv : List (Option Value)) (st : List Value) (M : jx_M) (Q : jx_Po), jx_Ev d 28 33 lv st M Q ↔ jx_Ev d 28 34 lv (.int 1 :: st) M Q) ∧
  (∀ (d : Nat) (st : List Value) (M : jx_M) (Q : jx_Po) (l1 l2 l3 : Option Value) (x : Nat), jx_Ev d 28 34 [some (.ref x), l1, l2, l3] st M Q ↔ jx_Ev d 28 35 [some (.ref x), l1, l2, l3] (.ref x :: st) M Q) ∧
  (∀ (d : Nat) (lv : List (Option Value)) (st : List Value) (M : jx_M) (Q : jx_Po), jx_Ev d 28 35 lv (.ref 13 :: st) M Q ↔ jx_Ev d 28 38 lv (.ref 14 :: st) M Q) ∧
  (∀ (d : Nat) (st : List Value) (M : jx_M) (Q : jx_Po) (l0 l1 l2 : Option Value) (x : Int32), jx_Ev d 28 38 [l0, l1, l2, some (.int x)] st M Q ↔ jx_Ev d 28 39 [l0, l1, l2, some (.int x)] (.int x :: st) M Q) ∧
  (∀ (d : Nat) (lv : List (Option Value)) (st : List Value) (M : jx_M) (Q : jx_Po) (x : Int32) (a : Nat) (ha : jx_cl a = 9), jx_Ev d 28 39 lv (.int x :: .ref a :: st) M Q ↔ (vp_in x (jx_sz a) ∧ jx_Ev d 28 40 lv (.int (M a x.toNatClampNeg) :: st) M Q)) ∧
  (∀ (d : Nat) (lv : List (Option Value)) (st : List Value) (M : jx_M) (Q : jx_Po) (x z : Int32), jx_Ev d 28 40 lv (.int z :: .int x :: st) M Q ↔ jx_Ev d 28 41 lv (.int (x <<< (z &&& 31)) :: st) M Q) ∧
  (∀ (d : Nat) (lv : List (Option Value)) (st : List Value) (M : jx_M) (Q : jx_Po) (x z : Int32), jx_Ev d 28 41 lv (.int z :: .int x :: st) M Q ↔ jx_Ev d 28 42 lv (.int (x ||| z) :: st) M Q) ∧
  (∀ (d : Nat) (st : List Value) (M : jx_M) (Q : jx_Po) (l0 l1 l2 l3 : Option Value) (x : Int32), jx_Ev d 28 42 [l0, l1, l2, l3] (.int x :: st) M Q ↔ jx_Ev d 28 43 [l0, l1, some (.int x), l3] st M Q) ∧
  (∀ (d : Nat) (st : List Value) (M : jx_M) (Q : jx_Po) (l0 l1 l2 : Option Value) (x : Int32), jx_Ev d 28 43 [l0, l1, l2, some (.int x)] st M Q ↔ jx_Ev d 28 46 [l0, l1, l2, some (.int (x + 1))] st M Q) ∧
  (∀ (d : Nat) (lv : List (Option Value)) (st : List Value) (M : jx_M) (Q : jx_Po), jx_Ev d 28 46 lv st M Q ↔ jx_Ev d 28 4 lv st M Q) ∧
  (∀ (d : Nat) (lv : List (Option Value)) (st : List Value) (M : jx_M) (Q : jx_Po), jx_Ev d 28 49 lv st M Q ↔ jx_Ev d 28 51 lv (.int (-9) :: st) M Q) ∧
  (∀ (d : Nat) (lv : List (Option Value)) (M : jx_M) (Q : jx_Po) (x : Int32), jx_Ev d 28 51 lv [.int x] M Q ↔ Q [.int x] M) := by
  refine ⟨?_, ?_, ?_, ?_, ?_, ?_, ?_, ?_, ?_, ?_, ?_, ?_, ?_, ?_, ?_, ?_, ?_, ?_, ?_, ?_, ?_, ?_, ?_, ?_, ?_, ?_, ?_, ?_, ?_, ?_, ?_, ?_, ?_⟩
  · exact fun d lv st M Q => jx_ev_st (jx_fok (by decide +kernel : decode (jx_mb 28) 0 = .ok (.iconst 0, 1))) rfl rfl rfl
  · exact fun d st M Q l0 l1 l2 l3 x => jx_ev_st (jx_fok (by decide +kernel : decode (jx_mb 28) 1 = .ok (.istore_n 2, 1))) rfl rfl rfl
  · exact fun d lv st M Q => jx_ev_st (jx_fok (by decide +kernel : decode (jx_mb 28) 2 = .ok (.iconst 0, 1))) rfl rfl rfl
  · exact fun d st M Q l0 l1 l2 l3 x => jx_ev_st (jx_fok (by decide +kernel : decode (jx_mb 28) 3 = .ok (.istore_n 3, 1))) rfl rfl rfl
  · exact fun d st M Q l0 l2 l3 x => jx_ev_st (jx_fok (by decide +kernel : decode (jx_mb 28) 5 = .ok (.iload_n 1, 1))) rfl rfl rfl
  · exact fun d lv st M Q x z => jx_k_b2 (jx_fok (by decide +kernel : decode (jx_mb 28) 6 = .ok (.if_icmp .ge 43, 3))) rfl jx_hGe
  · exact fun d st M Q l0 l1 l2 x => jx_ev_st (jx_fok (by decide +kernel : decode (jx_mb 28) 9 = .ok (.iload_n 3, 1))) rfl rfl rfl
  · exact fun d lv st M Q => jx_ev_st (jx_fok (by decide +kernel : decode (jx_mb 28) 10 = .ok (.bipush 20, 2))) rfl rfl rfl
  · exact fun d lv st M Q x z => jx_k_b2 (jx_fok (by decide +kernel : decode (jx_mb 28) 12 = .ok (.if_icmp .ge 37, 3))) rfl jx_hGe
  · exact fun d st M Q l1 l2 l3 x => jx_ev_st (jx_fok (by decide +kernel : decode (jx_mb 28) 15 = .ok (.aload_n 0, 1))) rfl rfl rfl
  · exact fun d st M Q l1 l2 l3 x => jx_ev_st (jx_fok (by decide +kernel : decode (jx_mb 28) 16 = .ok (.aload_n 0, 1))) rfl rfl rfl
  · exact fun d lv st M Q => jx_k_gf (jx_fok (by decide +kernel : decode (jx_mb 28) 17 = .ok (.getfield 9, 3))) rfl rfl rfl
  · exact fun d st M Q l0 l1 l2 x => jx_ev_st (jx_fok (by decide +kernel : decode (jx_mb 28) 20 = .ok (.iload_n 3, 1))) rfl rfl rfl
  · exact fun d lv st M Q x a ha => jx_k_al (jx_fok (by decide +kernel : decode (jx_mb 28) 21 = .ok (.iaload, 1))) ha
  · exact fun d st M Q l0 l1 l2 x => jx_ev_st (jx_fok (by decide +kernel : decode (jx_mb 28) 22 = .ok (.iload_n 3, 1))) rfl rfl rfl
  · exact fun d st M Q l0 l1 l3 x => jx_ev_st (jx_fok (by decide +kernel : decode (jx_mb 28) 23 = .ok (.iload_n 2, 1))) rfl rfl rfl
  · exact fun d lv M Q a0 a1 a2 => jx_ev_ci (jx_fok (by decide +kernel : decode (jx_mb 28) 24 = .ok (.invokevirtual 48, 3))) rfl (jx_ccV (As := [.int a2, .int a1, .int a0]) (rest := []) rfl rfl rfl rfl rfl rfl) (by decide)
  · exact fun d lv st M Q x => jx_k_b1n (jx_fok (by decide +kernel : decode (jx_mb 28) 27 = .ok (.ifCond .ne 5, 3))) rfl jx_hNe
  · exact fun d st M Q l0 l1 l2 x => jx_ev_st (jx_fok (by decide +kernel : decode (jx_mb 28) 30 = .ok (.iload_n 3, 1))) rfl rfl rfl
  · exact fun d lv M Q x => jx_k_ri (jx_fok (by decide +kernel : decode (jx_mb 28) 31 = .ok (.ireturn, 1))) rfl
  · exact fun d st M Q l0 l1 l3 x => jx_ev_st (jx_fok (by decide +kernel : decode (jx_mb 28) 32 = .ok (.iload_n 2, 1))) rfl rfl rfl
  · exact fun d lv st M Q => jx_ev_st (jx_fok (by decide +kernel : decode (jx_mb 28) 33 = .ok (.iconst 1, 1))) rfl rfl rfl
  · exact fun d st M Q l1 l2 l3 x => jx_ev_st (jx_fok (by decide +kernel : decode (jx_mb 28) 34 = .ok (.aload_n 0, 1))) rfl rfl rfl
  · exact fun d lv st M Q => jx_k_gf (jx_fok (by decide +kernel : decode (jx_mb 28) 35 = .ok (.getfield 9, 3))) rfl rfl rfl
  · exact fun d st M Q l0 l1 l2 x => jx_ev_st (jx_fok (by decide +kernel : decode (jx_mb 28) 38 = .ok (.iload_n 3, 1))) rfl rfl rfl
  · exact fun d lv st M Q x a ha => jx_k_al (jx_fok (by decide +kernel : decode (jx_mb 28) 39 = .ok (.iaload, 1))) ha
  · exact fun d lv st M Q x z => jx_ev_st (jx_fok (by decide +kernel : decode (jx_mb 28) 40 = .ok (.ishl, 1))) rfl rfl rfl
  · exact fun d lv st M Q x z => jx_ev_st (jx_fok (by decide +kernel : decode (jx_mb 28) 41 = .ok (.ior, 1))) rfl rfl rfl
  · exact fun d st M Q l0 l1 l2 l3 x => jx_ev_st (jx_fok (by decide +kernel : decode (jx_mb 28) 42 = .ok (.istore_n 2, 1))) rfl rfl rfl
  · exact fun d st M Q l0 l1 l2 x => jx_ev_st (jx_fok (by decide +kernel : decode (jx_mb 28) 43 = .ok (.iinc 3 1, 3))) rfl rfl rfl
  · exact fun d lv st M Q => jx_k_goto (jx_fok (by decide +kernel : decode (jx_mb 28) 46 = .ok (.goto (-42), 3))) rfl
  · exact fun d lv st M Q => jx_ev_st (jx_fok (by decide +kernel : decode (jx_mb 28) 49 = .ok (.bipush (-9), 2))) rfl rfl rfl
  · exact fun d lv M Q x => jx_k_ri (jx_fok (by decide +kernel : decode (jx_mb 28) 51 = .ok (.ireturn, 1))) rfl
theorem eX5_firstWrong_4 (d : Nat) (st : List Value) (M : jx_M) (Q : jx_Po) (l0 l1 l2 : Option Value) (x : Int32) : jx_Ev d 28 4 [l0, l1, l2, some (.int x)] st M Q ↔ jx_Ev d 28 5 [l0, l1, l2, some (.int x)] (.int x :: st) M Q := jx_ev_st (jx_fok (by decide +kernel : decode (jx_mb 28) 4 = .ok (.iload_n 3, 1))) rfl rfl rfl
theorem kX5_firstWrong (d : Nat) (M : jx_M) (q : Int32 → jx_M → Prop) (a0 a1 : Value) : jx_I d 28 [a0, a1] M q ↔ jx_Ev d 28 0 [some a0, some a1, none, none] [] M (jx_qI q) := Iff.rfl
set_option maxRecDepth 100000 in
theorem eX5_fits :
  (∀ (d : Nat) (st : List Value) (M : jx_M) (Q : jx_Po) (l1 l2 l3 l4 : Option Value) (x : Nat), jx_Ev d 29 0 [some (.ref x), l1, l2, l3, l4] st M Q ↔ jx_Ev d 29 1 [some (.ref x), l1, l2, l3, l4] (.ref x :: st) M Q) ∧
  (∀ (d : Nat) (st : List Value) (M : jx_M) (Q : jx_Po) (l0 l2 l3 l4 : Option Value) (x : Int32), jx_Ev d 29 1 [l0, some (.int x), l2, l3, l4] st M Q ↔ jx_Ev d 29 2 [l0, some (.int x), l2, l3, l4] (.int x :: st) M Q) ∧
  (∀ (d : Nat) (lv : List (Option Value)) (M : jx_M) (Q : jx_Po) (a0 : Int32), jx_Ev (d + 1) 29 2 lv [.int a0, .ref 13] M Q ↔ jx_I d 27 [.ref 13, .int a0] M (fun x M => jx_Ev (d + 1) 29 5 lv (.int x :: []) M Q)) ∧
  (∀ (d : Nat) (lv : List (Option Value)) (st : List Value) (M : jx_M) (Q : jx_Po) (x : Int32), jx_Ev d 29 5 lv (.int x :: st) M Q ↔ (if x = 0 then jx_Ev d 29 16 lv st M Q else jx_Ev d 29 8 lv st M Q)) ∧
  (∀ (d : Nat) (st : List Value) (M : jx_M) (Q : jx_Po) (l0 l1 l2 l4 : Option Value) (x : Int32), jx_Ev d 29 8 [l0, l1, l2, some (.int x), l4] st M Q ↔ jx_Ev d 29 9 [l0, l1, l2, some (.int x), l4] (.int x :: st) M Q) ∧
  (∀ (d : Nat) (st : List Value) (M : jx_M) (Q : jx_Po) (l0 l2 l3 l4 : Option Value) (x : Int32), jx_Ev d 29 9 [l0, some (.int x), l2, l3, l4] st M Q ↔ jx_Ev d 29 10 [l0, some (.int x), l2, l3, l4] (.int x :: st) M Q) ∧
  (∀ (d : Nat) (lv : List (Option Value)) (st : List Value) (M : jx_M) (Q : jx_Po) (x z : Int32), jx_Ev d 29 10 lv (.int z :: .int x :: st) M Q ↔ jx_Ev d 29 11 lv (.int (x >>> (z &&& 31)) :: st) M Q) ∧
  (∀ (d : Nat) (lv : List (Option Value)) (st : List Value) (M : jx_M) (Q : jx_Po), jx_Ev d 29 11 lv st M Q ↔ jx_Ev d 29 12 lv (.int 1 :: st) M Q) ∧
  (∀ (d : Nat) (lv : List (Option Value)) (st : List Value) (M : jx_M) (Q : jx_Po) (x z : Int32), jx_Ev d 29 12 lv (.int z :: .int x :: st) M Q ↔ jx_Ev d 29 13 lv (.int (x &&& z) :: st) M Q) ∧
  (∀ (d : Nat) (lv : List (Option Value)) (st : List Value) (M : jx_M) (Q : jx_Po) (x : Int32), jx_Ev d 29 13 lv (.int x :: st) M Q ↔ (if x = 0 then jx_Ev d 29 18 lv st M Q else jx_Ev d 29 16 lv st M Q)) ∧
  (∀ (d : Nat) (lv : List (Option Value)) (st : List Value) (M : jx_M) (Q : jx_Po), jx_Ev d 29 16 lv st M Q ↔ jx_Ev d 29 17 lv (.int 0 :: st) M Q) ∧
  (∀ (d : Nat) (lv : List (Option Value)) (M : jx_M) (Q : jx_Po) (x : Int32), jx_Ev d 29 17 lv [.int x] M Q ↔ ((x = 0 ∨ x = 1) ∧ Q [.int x] M)) ∧
  (∀ (d : Nat) (st : List Value) (M : jx_M) (Q : jx_Po) (l0 l1 l3 l4 : Option Value) (x : Int32), jx_Ev d 29 18 [l0, l1, some (.int x), l3, l4] st M Q ↔ jx_Ev d 29 19 [l0, l1, some (.int x), l3, l4] (.int x :: st) M Q) ∧
  (∀ (d : Nat) (lv : List (Option Value)) (st : List Value) (M : jx_M) (Q : jx_Po) (x : Int32), jx_Ev d 29 19 lv (.int x :: st) M Q ↔ (if x = 0 then jx_Ev d 29 22 lv st M Q else jx_Ev d 29 24 lv st M Q)) ∧
  (∀ (d : Nat) (lv : List (Option Value)) (st : List Value) (M : jx_M) (Q : jx_Po), jx_Ev d 29 22 lv st M Q ↔ jx_Ev d 29 23 lv (.int 1 :: st) M Q) ∧
  (∀ (d : Nat) (lv : List (Option Value)) (M : jx_M) (Q : jx_Po) (x : Int32), jx_Ev d 29 23 lv [.int x] M Q ↔ ((x = 0 ∨ x = 1) ∧ Q [.int x] M)) ∧
  (∀ (d : Nat) (st : List Value) (M : jx_M) (Q : jx_Po) (l1 l2 l3 l4 : Option Value) (x : Nat), jx_Ev d 29 24 [some (.ref x), l1, l2, l3, l4] st M Q ↔ jx_Ev d 29 25 [some (.ref x), l1, l2, l3, l4] (.ref x :: st) M Q) ∧
  (∀ (d : Nat) (lv : List (Option Value)) (st : List Value) (M : jx_M) (Q : jx_Po), jx_Ev d 29 25 lv (.ref 13 :: st) M Q ↔ jx_Ev d 29 28 lv (.ref 14 :: st) M Q) ∧
  (∀ (d : Nat) (st : List Value) (M : jx_M) (Q : jx_Po) (l0 l1 l3 l4 : Option Value) (x : Int32), jx_Ev d 29 28 [l0, l1, some (.int x), l3, l4] st M Q ↔ jx_Ev d 29 29 [l0, l1, some (.int x), l3, l4] (.int x :: st) M Q) ∧
  (∀ (d : Nat) (lv : List (Option Value)) (st : List Value) (M : jx_M) (Q : jx_Po), jx_Ev d 29 29 lv st M Q ↔ jx_Ev d 29 30 lv (.int 1 :: st) M Q) ∧
  (∀ (d : Nat) (lv : List (Option Value)) (st : List Value) (M : jx_M) (Q : jx_Po) (x z : Int32), jx_Ev d 29 30 lv (.int z :: .int x :: st) M Q ↔ jx_Ev d 29 31 lv (.int (x - z) :: st) M Q) ∧
  (∀ (d : Nat) (lv : List (Option Value)) (st : List Value) (M : jx_M) (Q : jx_Po) (x : Int32) (a : Nat) (ha : jx_cl a = 9), jx_Ev d 29 31 lv (.int x :: .ref a :: st) M Q ↔ (vp_in x (jx_sz a) ∧ jx_Ev d 29 32 lv (.int (M a x.toNatClampNeg) :: st) M Q)) ∧
  (∀ (d : Nat) (st : List Value) (M : jx_M) (Q : jx_Po) (l0 l1 l2 l3 l4 : Option Value) (x : Int32), jx_Ev d 29 32 [l0, l1, l2, l3, l4] (.int x :: st) M Q ↔ jx_Ev d 29 34 [l0, l1, l2, l3, some (.int x)] st M Q) ∧
  (∀ (d : Nat) (st : List Value) (M : jx_M) (Q : jx_Po) (l1 l2 l3 l4 : Option Value) (x : Nat), jx_Ev d 29 34 [some (.ref x), l1, l2, l3, l4] st M Q ↔ jx_Ev d 29 35 [some (.ref x), l1, l2, l3, l4] (.ref x :: st) M Q) ∧
  (∀ (d : Nat) (st : List Value) (M : jx_M) (Q : jx_Po) (l0 l1 l2 l3 : Option Value) (x : Int32), jx_Ev d 29 35 [l0, l1, l2, l3, some (.int x)] st M Q ↔ jx_Ev d 29 37 [l0, l1, l2, l3, some (.int x)] (.int x :: st) M Q) ∧
  (∀ (d : Nat) (lv : List (Option Value)) (M : jx_M) (Q : jx_Po) (a0 : Int32), jx_Ev (d + 1) 29 37 lv [.int a0, .ref 13] M Q ↔ jx_I d 27 [.ref 13, .int a0] M (fun x M => jx_Ev (d + 1) 29 40 lv (.int x :: []) M Q)) ∧
  (∀ (d : Nat) (lv : List (Option Value)) (st : List Value) (M : jx_M) (Q : jx_Po) (x : Int32), jx_Ev d 29 40 lv (.int x :: st) M Q ↔ (if x = 0 then jx_Ev d 29 71 lv st M Q else jx_Ev d 29 43 lv st M Q)) ∧
  (∀ (d : Nat) (st : List Value) (M : jx_M) (Q : jx_Po) (l1 l2 l3 l4 : Option Value) (x : Nat), jx_Ev d 29 43 [some (.ref x), l1, l2, l3, l4] st M Q ↔ jx_Ev d 29 44 [some (.ref x), l1, l2, l3, l4] (.ref x :: st) M Q) ∧
  (∀ (d : Nat) (lv : List (Option Value)) (st : List Value) (M : jx_M) (Q : jx_Po), jx_Ev d 29 44 lv (.ref 13 :: st) M Q ↔ jx_Ev d 29 47 lv (.ref 15 :: st) M Q) ∧
  (∀ (d : Nat) (st : List Value) (M : jx_M) (Q : jx_Po) (l0 l2 l3 l4 : Option Value) (x : Int32), jx_Ev d 29 47 [l0, some (.int x), l2, l3, l4] st M Q ↔ jx_Ev d 29 48 [l0, some (.int x), l2, l3, l4] (.int x :: st) M Q) ∧
  (∀ (d : Nat) (lv : List (Option Value)) (st : List Value) (M : jx_M) (Q : jx_Po) (x : Int32) (a : Nat) (ha : jx_cl a = 9), jx_Ev d 29 48 lv (.int x :: .ref a :: st) M Q ↔ (vp_in x (jx_sz a) ∧ jx_Ev d 29 49 lv (.int (M a x.toNatClampNeg) :: st) M Q)) ∧
  (∀ (d : Nat) (st : List Value) (M : jx_M) (Q : jx_Po) (l1 l2 l3 l4 : Option Value) (x : Nat), jx_Ev d 29 49 [some (.ref x), l1, l2, l3, l4] st M Q ↔ jx_Ev d 29 50 [some (.ref x), l1, l2, l3, l4] (.ref x :: st) M Q) ∧
  (∀ (d : Nat) (lv : List (Option Value)) (st : List Value) (M : jx_M) (Q : jx_Po), jx_Ev d 29 50 lv (.ref 13 :: st) M Q ↔ jx_Ev d 29 53 lv (.ref 15 :: st) M Q) ∧
  (∀ (d : Nat) (st : List Value) (M : jx_M) (Q : jx_Po) (l0 l1 l2 l3 : Option Value) (x : Int32), jx_Ev d 29 53 [l0, l1, l2, l3, some (.int x)] st M Q ↔ jx_Ev d 29 55 [l0, l1, l2, l3, some (.int x)] (.int x :: st) M Q) ∧
  (∀ (d : Nat) (lv : List (Option Value)) (st : List Value) (M : jx_M) (Q : jx_Po) (x : Int32) (a : Nat) (ha : jx_cl a = 9), jx_Ev d 29 55 lv (.int x :: .ref a :: st) M Q ↔ (vp_in x (jx_sz a) ∧ jx_Ev d 29 56 lv (.int (M a x.toNatClampNeg) :: st) M Q)) ∧
  (∀ (d : Nat) (lv : List (Option Value)) (st : List Value) (M : jx_M) (Q : jx_Po) (x z : Int32), jx_Ev d 29 56 lv (.int z :: .int x :: st) M Q ↔ jx_Ev d 29 57 lv (.int (x - z) :: st) M Q) ∧
  (∀ (d : Nat) (lv : List (Option Value)) (M : jx_M) (Q : jx_Po) (a0 : Int32), jx_Ev (d + 1) 29 57 lv [.int a0] M Q ↔ jx_Ev (d + 1) 29 60 lv (.int (if 0 ≤ a0 then a0 else 0 - a0) :: []) M Q) ∧
  (∀ (d : Nat) (st : List Value) (M : jx_M) (Q : jx_Po) (l1 l2 l3 l4 : Option Value) (x : Nat), jx_Ev d 29 60 [some (.ref x), l1, l2, l3, l4] st M Q ↔ jx_Ev d 29 61 [some (.ref x), l1, l2, l3, l4] (.ref x :: st) M Q) ∧
  (∀ (d : Nat) (lv : List (Option Value)) (st : List Value) (M : jx_M) (Q : jx_Po), jx_Ev d 29 61 lv (.ref 13 :: st) M Q ↔ jx_Ev d 29 64 lv (.int (M 13 3) :: st) M Q) ∧
  (∀ (d : Nat) (lv : List (Option Value)) (st : List Value) (M : jx_M) (Q : jx_Po) (x z : Int32), jx_Ev d 29 64 lv (.int z :: .int x :: st) M Q ↔ (if x < z then jx_Ev d 29 71 lv st M Q else jx_Ev d 29 67 lv st M Q)) ∧
  (∀ (d : Nat) (lv : List (Option Value)) (st : List Value) (M : jx_M) (Q : jx_Po), jx_Ev d 29 67 lv st M Q ↔ jx_Ev d 29 68 lv (.int 1 :: st) M Q) ∧
  (∀ (d : Nat) (lv : List (Option Value)) (st : List Value) (M : jx_M) (Q : jx_Po), jx_Ev d 29 68 lv st M Q ↔ jx_Ev d 29 72 lv st M Q) ∧
  (∀ (d : Nat) (lv : List (Option Value)) (st : List Value) (M : jx_M) (Q : jx_Po), jx_Ev d 29 71 lv st M Q ↔ jx_Ev d 29 72 lv (.int 0 :: st) M Q) ∧
  (∀ (d : Nat) (lv : List (Option Value)) (M : jx_M) (Q : jx_Po) (x : Int32), jx_Ev d 29 72 lv [.int x] M Q ↔ ((x = 0 ∨ x = 1) ∧ Q [.int x] M)) := by
  refine ⟨?_, ?_, ?_, ?_, ?_, ?_, ?_, ?_, ?_, ?_, ?_, ?_, ?_, ?_, ?_, ?_, ?_, ?_, ?_, ?_, ?_, ?_, ?_, ?_, ?_, ?_, ?_, ?_, ?_, ?_, ?_, ?_, ?_, ?_, ?_, ?_, ?_, ?_, ?_, ?_, ?_, ?_, ?_, ?_⟩
  · exact fun d st M Q l1 l2 l3 l4 x => jx_ev_st (jx_fok (by decide +kernel : decode (jx_mb 29) 0 = .ok (.aload_n 0, 1))) rfl rfl rfl
  · exact fun d st M Q l0 l2 l3 l4 x => jx_ev_st (jx_fok (by decide +kernel : decode (jx_mb 29) 1 = .ok (.iload_n 1, 1))) rfl rfl rfl
  · exact fun d lv M Q a0 => jx_ev_ci (jx_fok (by decide +kernel : decode (jx_mb 29) 2 = .ok (.invokevirtual 44, 3))) rfl (jx_ccV (As := [.int a0]) (rest := []) rfl rfl rfl rfl rfl rfl) (by decide)
  · exact fun d lv st M Q x => jx_k_b1 (jx_fok (by decide +kernel : decode (jx_mb 29) 5 = .ok (.ifCond .eq 11, 3))) rfl jx_hEq
  · exact fun d st M Q l0 l1 l2 l4 x => jx_ev_st (jx_fok (by decide +kernel : decode (jx_mb 29) 8 = .ok (.iload_n 3, 1))) rfl rfl rfl
  · exact fun d st M Q l0 l2 l3 l4 x => jx_ev_st (jx_fok (by decide +kernel : decode (jx_mb 29) 9 = .ok (.iload_n 1, 1))) rfl rfl rfl
  · exact fun d lv st M Q x z => jx_ev_st (jx_fok (by decide +kernel : decode (jx_mb 29) 10 = .ok (.ishr, 1))) rfl rfl rfl
  · exact fun d lv st M Q => jx_ev_st (jx_fok (by decide +kernel : decode (jx_mb 29) 11 = .ok (.iconst 1, 1))) rfl rfl rfl
  · exact fun d lv st M Q x z => jx_ev_st (jx_fok (by decide +kernel : decode (jx_mb 29) 12 = .ok (.iand, 1))) rfl rfl rfl
  · exact fun d lv st M Q x => jx_k_b1 (jx_fok (by decide +kernel : decode (jx_mb 29) 13 = .ok (.ifCond .eq 5, 3))) rfl jx_hEq
  · exact fun d lv st M Q => jx_ev_st (jx_fok (by decide +kernel : decode (jx_mb 29) 16 = .ok (.iconst 0, 1))) rfl rfl rfl
  · exact fun d lv M Q x => jx_k_rz (jx_fok (by decide +kernel : decode (jx_mb 29) 17 = .ok (.ireturn, 1))) rfl
  · exact fun d st M Q l0 l1 l3 l4 x => jx_ev_st (jx_fok (by decide +kernel : decode (jx_mb 29) 18 = .ok (.iload_n 2, 1))) rfl rfl rfl
  · exact fun d lv st M Q x => jx_k_b1n (jx_fok (by decide +kernel : decode (jx_mb 29) 19 = .ok (.ifCond .ne 5, 3))) rfl jx_hNe
  · exact fun d lv st M Q => jx_ev_st (jx_fok (by decide +kernel : decode (jx_mb 29) 22 = .ok (.iconst 1, 1))) rfl rfl rfl
  · exact fun d lv M Q x => jx_k_rz (jx_fok (by decide +kernel : decode (jx_mb 29) 23 = .ok (.ireturn, 1))) rfl
  · exact fun d st M Q l1 l2 l3 l4 x => jx_ev_st (jx_fok (by decide +kernel : decode (jx_mb 29) 24 = .ok (.aload_n 0, 1))) rfl rfl rfl
  · exact fun d lv st M Q => jx_k_gf (jx_fok (by decide +kernel : decode (jx_mb 29) 25 = .ok (.getfield 9, 3))) rfl rfl rfl
  · exact fun d st M Q l0 l1 l3 l4 x => jx_ev_st (jx_fok (by decide +kernel : decode (jx_mb 29) 28 = .ok (.iload_n 2, 1))) rfl rfl rfl
  · exact fun d lv st M Q => jx_ev_st (jx_fok (by decide +kernel : decode (jx_mb 29) 29 = .ok (.iconst 1, 1))) rfl rfl rfl
  · exact fun d lv st M Q x z => jx_ev_st (jx_fok (by decide +kernel : decode (jx_mb 29) 30 = .ok (.isub, 1))) rfl rfl rfl
  · exact fun d lv st M Q x a ha => jx_k_al (jx_fok (by decide +kernel : decode (jx_mb 29) 31 = .ok (.iaload, 1))) ha
  · exact fun d st M Q l0 l1 l2 l3 l4 x => jx_ev_st (jx_fok (by decide +kernel : decode (jx_mb 29) 32 = .ok (.istore 4, 2))) rfl rfl rfl
  · exact fun d st M Q l1 l2 l3 l4 x => jx_ev_st (jx_fok (by decide +kernel : decode (jx_mb 29) 34 = .ok (.aload_n 0, 1))) rfl rfl rfl
  · exact fun d st M Q l0 l1 l2 l3 x => jx_ev_st (jx_fok (by decide +kernel : decode (jx_mb 29) 35 = .ok (.iload 4, 2))) rfl rfl rfl
  · exact fun d lv M Q a0 => jx_ev_ci (jx_fok (by decide +kernel : decode (jx_mb 29) 37 = .ok (.invokevirtual 44, 3))) rfl (jx_ccV (As := [.int a0]) (rest := []) rfl rfl rfl rfl rfl rfl) (by decide)
  · exact fun d lv st M Q x => jx_k_b1 (jx_fok (by decide +kernel : decode (jx_mb 29) 40 = .ok (.ifCond .eq 31, 3))) rfl jx_hEq
  · exact fun d st M Q l1 l2 l3 l4 x => jx_ev_st (jx_fok (by decide +kernel : decode (jx_mb 29) 43 = .ok (.aload_n 0, 1))) rfl rfl rfl
  · exact fun d lv st M Q => jx_k_gf (jx_fok (by decide +kernel : decode (jx_mb 29) 44 = .ok (.getfield 15, 3))) rfl rfl rfl
  · exact fun d st M Q l0 l2 l3 l4 x => jx_ev_st (jx_fok (by decide +kernel : decode (jx_mb 29) 47 = .ok (.iload_n 1, 1))) rfl rfl rfl
  · exact fun d lv st M Q x a ha => jx_k_al (jx_fok (by decide +kernel : decode (jx_mb 29) 48 = .ok (.iaload, 1))) ha
  · exact fun d st M Q l1 l2 l3 l4 x => jx_ev_st (jx_fok (by decide +kernel : decode (jx_mb 29) 49 = .ok (.aload_n 0, 1))) rfl rfl rfl
  · exact fun d lv st M Q => jx_k_gf (jx_fok (by decide +kernel : decode (jx_mb 29) 50 = .ok (.getfield 15, 3))) rfl rfl rfl
  · exact fun d st M Q l0 l1 l2 l3 x => jx_ev_st (jx_fok (by decide +kernel : decode (jx_mb 29) 53 = .ok (.iload 4, 2))) rfl rfl rfl
  · exact fun d lv st M Q x a ha => jx_k_al (jx_fok (by decide +kernel : decode (jx_mb 29) 55 = .ok (.iaload, 1))) ha
  · exact fun d lv st M Q x z => jx_ev_st (jx_fok (by decide +kernel : decode (jx_mb 29) 56 = .ok (.isub, 1))) rfl rfl rfl
  · exact fun d lv M Q a0 => jx_k_abs (jx_fok (by decide +kernel : decode (jx_mb 29) 57 = .ok (.invokestatic 52, 3))) rfl rfl (Nat.le_of_ble_eq_true rfl)
  · exact fun d st M Q l1 l2 l3 l4 x => jx_ev_st (jx_fok (by decide +kernel : decode (jx_mb 29) 60 = .ok (.aload_n 0, 1))) rfl rfl rfl
  · exact fun d lv st M Q => jx_k_gf (jx_fok (by decide +kernel : decode (jx_mb 29) 61 = .ok (.getfield 22, 3))) rfl rfl rfl
  · exact fun d lv st M Q x z => jx_k_b2 (jx_fok (by decide +kernel : decode (jx_mb 29) 64 = .ok (.if_icmp .lt 7, 3))) rfl jx_hLt
  · exact fun d lv st M Q => jx_ev_st (jx_fok (by decide +kernel : decode (jx_mb 29) 67 = .ok (.iconst 1, 1))) rfl rfl rfl
  · exact fun d lv st M Q => jx_k_goto (jx_fok (by decide +kernel : decode (jx_mb 29) 68 = .ok (.goto 4, 3))) rfl
  · exact fun d lv st M Q => jx_ev_st (jx_fok (by decide +kernel : decode (jx_mb 29) 71 = .ok (.iconst 0, 1))) rfl rfl rfl
  · exact fun d lv M Q x => jx_k_rz (jx_fok (by decide +kernel : decode (jx_mb 29) 72 = .ok (.ireturn, 1))) rfl
theorem kX5_fits (d : Nat) (M : jx_M) (q : Int32 → jx_M → Prop) (a0 a1 a2 a3 : Value) : jx_I d 29 [a0, a1, a2, a3] M q ↔ jx_Ev d 29 0 [some a0, some a1, some a2, some a3, none] [] M (jx_qI q) := Iff.rfl
set_option maxRecDepth 100000 in
theorem eX5_fillInOrder :
  (∀ (d : Nat) (st : List Value) (M : jx_M) (Q : jx_Po) (x : Nat), jx_Ev d 30 0 [some (.ref x)] st M Q ↔ jx_Ev d 30 1 [some (.ref x)] (.ref x :: st) M Q) ∧
  (∀ (d : Nat) (lv : List (Option Value)) (st : List Value) (M : jx_M) (Q : jx_Po), jx_Ev d 30 1 lv st M Q ↔ jx_Ev d 30 2 lv (.int 0 :: st) M Q) ∧
  (∀ (d : Nat) (lv : List (Option Value)) (st : List Value) (M : jx_M) (Q : jx_Po), jx_Ev d 30 2 lv st M Q ↔ jx_Ev d 30 3 lv (.int 0 :: st) M Q) ∧
  (∀ (d : Nat) (lv : List (Option Value)) (M : jx_M) (Q : jx_Po) (a0 : Int32) (a1 : Int32) (a2 : Nat), jx_Ev (d + 1) 30 3 lv [.int a0, .int a1, .ref a2] M Q ↔ jx_I d 31 [.ref a2, .int a1, .int a0] M (fun x M => jx_Ev (d + 1) 30 6 lv (.int x :: []) M Q)) ∧
  (∀ (d : Nat) (lv : List (Option Value)) (M : jx_M) (Q : jx_Po) (x : Int32), jx_Ev d 30 6 lv [.int x] M Q ↔ ((x = 0 ∨ x = 1) ∧ Q [.int x] M)) := by
  refine ⟨?_, ?_, ?_, ?_, ?_⟩
  · exact fun d st M Q x => jx_ev_st (jx_fok (by decide +kernel : decode (jx_mb 30) 0 = .ok (.aload_n 0, 1))) rfl rfl rfl
  · exact fun d lv st M Q => jx_ev_st (jx_fok (by decide +kernel : decode (jx_mb 30) 1 = .ok (.iconst 0, 1))) rfl rfl rfl
  · exact fun d lv st M Q => jx_ev_st (jx_fok (by decide +kernel : decode (jx_mb 30) 2 = .ok (.iconst 0, 1))) rfl rfl rfl
  · exact fun d lv M Q a0 a1 a2 => jx_ev_ci (jx_fok (by decide +kernel : decode (jx_mb 30) 3 = .ok (.invokestatic 55, 3))) rfl (jx_ccS (As := [.ref a2, .int a1, .int a0]) (rest := []) rfl rfl rfl rfl rfl) (by decide)
  · exact fun d lv M Q x => jx_k_rz (jx_fok (by decide +kernel : decode (jx_mb 30) 6 = .ok (.ireturn, 1))) rfl
theorem kX5_fillInOrder (d : Nat) (M : jx_M) (q : Int32 → jx_M → Prop) (a0 : Value) : jx_I d 30 [a0] M q ↔ jx_Ev d 30 0 [some a0] [] M (jx_qI q) := Iff.rfl
set_option maxRecDepth 100000 in
theorem eX5_fillFrom :
  (∀ (d : Nat) (st : List Value) (M : jx_M) (Q : jx_Po) (l0 l2 l3 : Option Value) (x : Int32), jx_Ev d 31 0 [l0, some (.int x), l2, l3] st M Q ↔ jx_Ev d 31 1 [l0, some (.int x), l2, l3] (.int x :: st) M Q) ∧
  (∀ (d : Nat) (st : List Value) (M : jx_M) (Q : jx_Po) (l1 l2 l3 : Option Value) (x : Nat), jx_Ev d 31 1 [some (.ref x), l1, l2, l3] st M Q ↔ jx_Ev d 31 2 [some (.ref x), l1, l2, l3] (.ref x :: st) M Q) ∧
  (∀ (d : Nat) (lv : List (Option Value)) (st : List Value) (M : jx_M) (Q : jx_Po), jx_Ev d 31 2 lv (.ref 13 :: st) M Q ↔ jx_Ev d 31 5 lv (.int (M 13 2) :: st) M Q) ∧
  (∀ (d : Nat) (lv : List (Option Value)) (st : List Value) (M : jx_M) (Q : jx_Po) (x z : Int32), jx_Ev d 31 5 lv (.int z :: .int x :: st) M Q ↔ (if z ≤ x then jx_Ev d 31 14 lv st M Q else jx_Ev d 31 8 lv st M Q)) ∧
  (∀ (d : Nat) (st : List Value) (M : jx_M) (Q : jx_Po) (l0 l2 l3 : Option Value) (x : Int32), jx_Ev d 31 8 [l0, some (.int x), l2, l3] st M Q ↔ jx_Ev d 31 9 [l0, some (.int x), l2, l3] (.int x :: st) M Q) ∧
  (∀ (d : Nat) (lv : List (Option Value)) (st : List Value) (M : jx_M) (Q : jx_Po), jx_Ev d 31 9 lv st M Q ↔ jx_Ev d 31 11 lv (.int 6 :: st) M Q) ∧
  (∀ (d : Nat) (lv : List (Option Value)) (st : List Value) (M : jx_M) (Q : jx_Po) (x z : Int32), jx_Ev d 31 11 lv (.int z :: .int x :: st) M Q ↔ (if x < z then jx_Ev d 31 16 lv st M Q else jx_Ev d 31 14 lv st M Q)) ∧
  (∀ (d : Nat) (lv : List (Option Value)) (st : List Value) (M : jx_M) (Q : jx_Po), jx_Ev d 31 14 lv st M Q ↔ jx_Ev d 31 15 lv (.int 1 :: st) M Q) ∧
  (∀ (d : Nat) (lv : List (Option Value)) (M : jx_M) (Q : jx_Po) (x : Int32), jx_Ev d 31 15 lv [.int x] M Q ↔ ((x = 0 ∨ x = 1) ∧ Q [.int x] M)) ∧
  (∀ (d : Nat) (lv : List (Option Value)) (st : List Value) (M : jx_M) (Q : jx_Po), jx_Ev d 31 16 lv st M Q ↔ jx_Ev d 31 17 lv (.int 0 :: st) M Q) ∧
  (∀ (d : Nat) (st : List Value) (M : jx_M) (Q : jx_Po) (l0 l1 l2 l3 : Option Value) (x : Int32), jx_Ev d 31 17 [l0, l1, l2, l3] (.int x :: st) M Q ↔ jx_Ev d 31 18 [l0, l1, l2, some (.int x)] st M Q) ∧
  (∀ (d : Nat) (st : List Value) (M : jx_M) (Q : jx_Po) (l1 l2 l3 : Option Value) (x : Nat), jx_Ev d 31 19 [some (.ref x), l1, l2, l3] st M Q ↔ jx_Ev d 31 20 [some (.ref x), l1, l2, l3] (.ref x :: st) M Q) ∧
  (∀ (d : Nat) (lv : List (Option Value)) (st : List Value) (M : jx_M) (Q : jx_Po), jx_Ev d 31 20 lv (.ref 13 :: st) M Q ↔ jx_Ev d 31 23 lv (.int (M 13 2) :: st) M Q) ∧
  (∀ (d : Nat) (lv : List (Option Value)) (st : List Value) (M : jx_M) (Q : jx_Po) (x z : Int32), jx_Ev d 31 23 lv (.int z :: .int x :: st) M Q ↔ (if z ≤ x then jx_Ev d 31 66 lv st M Q else jx_Ev d 31 26 lv st M Q)) ∧
  (∀ (d : Nat) (st : List Value) (M : jx_M) (Q : jx_Po) (l1 l2 l3 : Option Value) (x : Nat), jx_Ev d 31 26 [some (.ref x), l1, l2, l3] st M Q ↔ jx_Ev d 31 27 [some (.ref x), l1, l2, l3] (.ref x :: st) M Q) ∧
  (∀ (d : Nat) (st : List Value) (M : jx_M) (Q : jx_Po) (l0 l1 l2 : Option Value) (x : Int32), jx_Ev d 31 27 [l0, l1, l2, some (.int x)] st M Q ↔ jx_Ev d 31 28 [l0, l1, l2, some (.int x)] (.int x :: st) M Q) ∧
  (∀ (d : Nat) (st : List Value) (M : jx_M) (Q : jx_Po) (l0 l2 l3 : Option Value) (x : Int32), jx_Ev d 31 28 [l0, some (.int x), l2, l3] st M Q ↔ jx_Ev d 31 29 [l0, some (.int x), l2, l3] (.int x :: st) M Q) ∧
  (∀ (d : Nat) (st : List Value) (M : jx_M) (Q : jx_Po) (l0 l1 l3 : Option Value) (x : Int32), jx_Ev d 31 29 [l0, l1, some (.int x), l3] st M Q ↔ jx_Ev d 31 30 [l0, l1, some (.int x), l3] (.int x :: st) M Q) ∧
  (∀ (d : Nat) (lv : List (Option Value)) (M : jx_M) (Q : jx_Po) (a0 : Int32) (a1 : Int32) (a2 : Int32), jx_Ev (d + 1) 31 30 lv [.int a0, .int a1, .int a2, .ref 13] M Q ↔ jx_I d 29 [.ref 13, .int a2, .int a1, .int a0] M (fun x M => jx_Ev (d + 1) 31 33 lv (.int x :: []) M Q)) ∧
  (∀ (d : Nat) (lv : List (Option Value)) (st : List Value) (M : jx_M) (Q : jx_Po) (x : Int32), jx_Ev d 31 33 lv (.int x :: st) M Q ↔ (if x = 0 then jx_Ev d 31 60 lv st M Q else jx_Ev d 31 36 lv st M Q)) ∧
  (∀ (d : Nat) (st : List Value) (M : jx_M) (Q : jx_Po) (l1 l2 l3 : Option Value) (x : Nat), jx_Ev d 31 36 [some (.ref x), l1, l2, l3] st M Q ↔ jx_Ev d 31 37 [some (.ref x), l1, l2, l3] (.ref x :: st) M Q) ∧
  (∀ (d : Nat) (lv : List (Option Value)) (st : List Value) (M : jx_M) (Q : jx_Po), jx_Ev d 31 37 lv (.ref 13 :: st) M Q ↔ jx_Ev d 31 40 lv (.ref 14 :: st) M Q) ∧
  (∀ (d : Nat) (st : List Value) (M : jx_M) (Q : jx_Po) (l0 l2 l3 : Option Value) (x : Int32), jx_Ev d 31 40 [l0, some (.int x), l2, l3] st M Q ↔ jx_Ev d 31 41 [l0, some (.int x), l2, l3] (.int x :: st) M Q) ∧
  (∀ (d : Nat) (st : List Value) (M : jx_M) (Q : jx_Po) (l0 l1 l2 : Option Value) (x : Int32), jx_Ev d 31 41 [l0, l1, l2, some (.int x)] st M Q ↔ jx_Ev d 31 42 [l0, l1, l2, some (.int x)] (.int x :: st) M Q) ∧
  (∀ (d : Nat) (lv : List (Option Value)) (st : List Value) (M : jx_M) (Q : jx_Po) (x z : Int32) (a : Nat) (ha : jx_cl a = 9), jx_Ev d 31 42 lv (.int z :: .int x :: .ref a :: st) M Q ↔ (vp_in x (jx_sz a) ∧ jx_Ev d 31 43 lv st (jx_up M a x.toNatClampNeg z) Q)) ∧
  (∀ (d : Nat) (st : List Value) (M : jx_M) (Q : jx_Po) (l1 l2 l3 : Option Value) (x : Nat), jx_Ev d 31 43 [some (.ref x), l1, l2, l3] st M Q ↔ jx_Ev d 31 44 [some (.ref x), l1, l2, l3] (.ref x :: st) M Q) ∧
  (∀ (d : Nat) (st : List Value) (M : jx_M) (Q : jx_Po) (l0 l2 l3 : Option Value) (x : Int32), jx_Ev d 31 44 [l0, some (.int x), l2, l3] st M Q ↔ jx_Ev d 31 45 [l0, some (.int x), l2, l3] (.int x :: st) M Q) ∧
  (∀ (d : Nat) (lv : List (Option Value)) (st : List Value) (M : jx_M) (Q : jx_Po), jx_Ev d 31 45 lv st M Q ↔ jx_Ev d 31 46 lv (.int 1 :: st) M Q) ∧
  (∀ (d : Nat) (lv : List (Option Value)) (st : List Value) (M : jx_M) (Q : jx_Po) (x z : Int32), jx_Ev d 31 46 lv (.int z :: .int x :: st) M Q ↔ jx_Ev d 31 47 lv (.int (x + z) :: st) M Q) ∧
  (∀ (d : Nat) (st : List Value) (M : jx_M) (Q : jx_Po) (l0 l1 l3 : Option Value) (x : Int32), jx_Ev d 31 47 [l0, l1, some (.int x), l3] st M Q ↔ jx_Ev d 31 48 [l0, l1, some (.int x), l3] (.int x :: st) M Q) ∧
  (∀ (d : Nat) (lv : List (Option Value)) (st : List Value) (M : jx_M) (Q : jx_Po), jx_Ev d 31 48 lv st M Q ↔ jx_Ev d 31 49 lv (.int 1 :: st) M Q) ∧
  (∀ (d : Nat) (st : List Value) (M : jx_M) (Q : jx_Po) (l0 l1 l2 : Option Value) (x : Int32), jx_Ev d 31 49 [l0, l1, l2, some (.int x)] st M Q ↔ jx_Ev d 31 50 [l0, l1, l2, some (.int x)] (.int x :: st) M Q) ∧
  (∀ (d : Nat) (lv : List (Option Value)) (st : List Value) (M : jx_M) (Q : jx_Po) (x z : Int32), jx_Ev d 31 50 lv (.int z :: .int x :: st) M Q ↔ jx_Ev d 31 51 lv (.int (x <<< (z &&& 31)) :: st) M Q) ∧
  (∀ (d : Nat) (lv : List (Option Value)) (st : List Value) (M : jx_M) (Q : jx_Po) (x z : Int32), jx_Ev d 31 51 lv (.int z :: .int x :: st) M Q ↔ jx_Ev d 31 52 lv (.int (x ||| z) :: st) M Q) ∧
  (∀ (d : Nat) (lv : List (Option Value)) (M : jx_M) (Q : jx_Po) (a0 : Int32) (a1 : Int32) (a2 : Nat), jx_Ev (d + 1) 31 52 lv [.int a0, .int a1, .ref a2] M Q ↔ jx_I d 31 [.ref a2, .int a1, .int a0] M (fun x M => jx_Ev (d + 1) 31 55 lv (.int x :: []) M Q)) ∧
  (∀ (d : Nat) (lv : List (Option Value)) (st : List Value) (M : jx_M) (Q : jx_Po) (x : Int32), jx_Ev d 31 55 lv (.int x :: st) M Q ↔ (if x = 0 then jx_Ev d 31 60 lv st M Q else jx_Ev d 31 58 lv st M Q)) ∧
  (∀ (d : Nat) (lv : List (Option Value)) (st : List Value) (M : jx_M) (Q : jx_Po), jx_Ev d 31 58 lv st M Q ↔ jx_Ev d 31 59 lv (.int 1 :: st) M Q) ∧
  (∀ (d : Nat) (lv : List (Option Value)) (M : jx_M) (Q : jx_Po) (x : Int32), jx_Ev d 31 59 lv [.int x] M Q ↔ ((x = 0 ∨ x = 1) ∧ Q [.int x] M)) ∧
  (∀ (d : Nat) (st : List Value) (M : jx_M) (Q : jx_Po) (l0 l1 l2 : Option Value) (x : Int32), jx_Ev d 31 60 [l0, l1, l2, some (.int x)] st M Q ↔ jx_Ev d 31 63 [l0, l1, l2, some (.int (x + 1))] st M Q) ∧
  (∀ (d : Nat) (lv : List (Option Value)) (st : List Value) (M : jx_M) (Q : jx_Po), jx_Ev d 31 63 lv st M Q ↔ jx_Ev d 31 18 lv st M Q) ∧
  (∀ (d : Nat) (lv : List (Option Value)) (st : List Value) (M : jx_M) (Q : jx_Po), jx_Ev d 31 66 lv st M Q ↔ jx_Ev d 31 67 lv (.int 0 :: st) M Q) ∧
  (∀ (d : Nat) (lv : List (Option Value)) (M : jx_M) (Q : jx_Po) (x : Int32), jx_Ev d 31 67 lv [.int x] M Q ↔ ((x = 0 ∨ x = 1) ∧ Q [.int x] M)) := by
  refine ⟨?_, ?_, ?_, ?_, ?_, ?_, ?_, ?_, ?_, ?_, ?_, ?_, ?_, ?_, ?_, ?_, ?_, ?_, ?_, ?_, ?_, ?_, ?_, ?_, ?_, ?_, ?_, ?_, ?_, ?_, ?_, ?_, ?_, ?_, ?_, ?_, ?_, ?_, ?_, ?_, ?_, ?_⟩
  · exact fun d st M Q l0 l2 l3 x => jx_ev_st (jx_fok (by decide +kernel : decode (jx_mb 31) 0 = .ok (.iload_n 1, 1))) rfl rfl rfl
  · exact fun d st M Q l1 l2 l3 x => jx_ev_st (jx_fok (by decide +kernel : decode (jx_mb 31) 1 = .ok (.aload_n 0, 1))) rfl rfl rfl
  · exact fun d lv st M Q => jx_k_gf (jx_fok (by decide +kernel : decode (jx_mb 31) 2 = .ok (.getfield 18, 3))) rfl rfl rfl
  · exact fun d lv st M Q x z => jx_k_b2 (jx_fok (by decide +kernel : decode (jx_mb 31) 5 = .ok (.if_icmp .ge 9, 3))) rfl jx_hGe
  · exact fun d st M Q l0 l2 l3 x => jx_ev_st (jx_fok (by decide +kernel : decode (jx_mb 31) 8 = .ok (.iload_n 1, 1))) rfl rfl rfl
  · exact fun d lv st M Q => jx_ev_st (jx_fok (by decide +kernel : decode (jx_mb 31) 9 = .ok (.bipush 6, 2))) rfl rfl rfl
  · exact fun d lv st M Q x z => jx_k_b2 (jx_fok (by decide +kernel : decode (jx_mb 31) 11 = .ok (.if_icmp .lt 5, 3))) rfl jx_hLt
  · exact fun d lv st M Q => jx_ev_st (jx_fok (by decide +kernel : decode (jx_mb 31) 14 = .ok (.iconst 1, 1))) rfl rfl rfl
  · exact fun d lv M Q x => jx_k_rz (jx_fok (by decide +kernel : decode (jx_mb 31) 15 = .ok (.ireturn, 1))) rfl
  · exact fun d lv st M Q => jx_ev_st (jx_fok (by decide +kernel : decode (jx_mb 31) 16 = .ok (.iconst 0, 1))) rfl rfl rfl
  · exact fun d st M Q l0 l1 l2 l3 x => jx_ev_st (jx_fok (by decide +kernel : decode (jx_mb 31) 17 = .ok (.istore_n 3, 1))) rfl rfl rfl
  · exact fun d st M Q l1 l2 l3 x => jx_ev_st (jx_fok (by decide +kernel : decode (jx_mb 31) 19 = .ok (.aload_n 0, 1))) rfl rfl rfl
  · exact fun d lv st M Q => jx_k_gf (jx_fok (by decide +kernel : decode (jx_mb 31) 20 = .ok (.getfield 18, 3))) rfl rfl rfl
  · exact fun d lv st M Q x z => jx_k_b2 (jx_fok (by decide +kernel : decode (jx_mb 31) 23 = .ok (.if_icmp .ge 43, 3))) rfl jx_hGe
  · exact fun d st M Q l1 l2 l3 x => jx_ev_st (jx_fok (by decide +kernel : decode (jx_mb 31) 26 = .ok (.aload_n 0, 1))) rfl rfl rfl
  · exact fun d st M Q l0 l1 l2 x => jx_ev_st (jx_fok (by decide +kernel : decode (jx_mb 31) 27 = .ok (.iload_n 3, 1))) rfl rfl rfl
  · exact fun d st M Q l0 l2 l3 x => jx_ev_st (jx_fok (by decide +kernel : decode (jx_mb 31) 28 = .ok (.iload_n 1, 1))) rfl rfl rfl
  · exact fun d st M Q l0 l1 l3 x => jx_ev_st (jx_fok (by decide +kernel : decode (jx_mb 31) 29 = .ok (.iload_n 2, 1))) rfl rfl rfl
  · exact fun d lv M Q a0 a1 a2 => jx_ev_ci (jx_fok (by decide +kernel : decode (jx_mb 31) 30 = .ok (.invokevirtual 48, 3))) rfl (jx_ccV (As := [.int a2, .int a1, .int a0]) (rest := []) rfl rfl rfl rfl rfl rfl) (by decide)
  · exact fun d lv st M Q x => jx_k_b1 (jx_fok (by decide +kernel : decode (jx_mb 31) 33 = .ok (.ifCond .eq 27, 3))) rfl jx_hEq
  · exact fun d st M Q l1 l2 l3 x => jx_ev_st (jx_fok (by decide +kernel : decode (jx_mb 31) 36 = .ok (.aload_n 0, 1))) rfl rfl rfl
  · exact fun d lv st M Q => jx_k_gf (jx_fok (by decide +kernel : decode (jx_mb 31) 37 = .ok (.getfield 9, 3))) rfl rfl rfl
  · exact fun d st M Q l0 l2 l3 x => jx_ev_st (jx_fok (by decide +kernel : decode (jx_mb 31) 40 = .ok (.iload_n 1, 1))) rfl rfl rfl
  · exact fun d st M Q l0 l1 l2 x => jx_ev_st (jx_fok (by decide +kernel : decode (jx_mb 31) 41 = .ok (.iload_n 3, 1))) rfl rfl rfl
  · exact fun d lv st M Q x z a ha => jx_k_as (jx_fok (by decide +kernel : decode (jx_mb 31) 42 = .ok (.iastore, 1))) ha
  · exact fun d st M Q l1 l2 l3 x => jx_ev_st (jx_fok (by decide +kernel : decode (jx_mb 31) 43 = .ok (.aload_n 0, 1))) rfl rfl rfl
  · exact fun d st M Q l0 l2 l3 x => jx_ev_st (jx_fok (by decide +kernel : decode (jx_mb 31) 44 = .ok (.iload_n 1, 1))) rfl rfl rfl
  · exact fun d lv st M Q => jx_ev_st (jx_fok (by decide +kernel : decode (jx_mb 31) 45 = .ok (.iconst 1, 1))) rfl rfl rfl
  · exact fun d lv st M Q x z => jx_ev_st (jx_fok (by decide +kernel : decode (jx_mb 31) 46 = .ok (.iadd, 1))) rfl rfl rfl
  · exact fun d st M Q l0 l1 l3 x => jx_ev_st (jx_fok (by decide +kernel : decode (jx_mb 31) 47 = .ok (.iload_n 2, 1))) rfl rfl rfl
  · exact fun d lv st M Q => jx_ev_st (jx_fok (by decide +kernel : decode (jx_mb 31) 48 = .ok (.iconst 1, 1))) rfl rfl rfl
  · exact fun d st M Q l0 l1 l2 x => jx_ev_st (jx_fok (by decide +kernel : decode (jx_mb 31) 49 = .ok (.iload_n 3, 1))) rfl rfl rfl
  · exact fun d lv st M Q x z => jx_ev_st (jx_fok (by decide +kernel : decode (jx_mb 31) 50 = .ok (.ishl, 1))) rfl rfl rfl
  · exact fun d lv st M Q x z => jx_ev_st (jx_fok (by decide +kernel : decode (jx_mb 31) 51 = .ok (.ior, 1))) rfl rfl rfl
  · exact fun d lv M Q a0 a1 a2 => jx_ev_ci (jx_fok (by decide +kernel : decode (jx_mb 31) 52 = .ok (.invokestatic 55, 3))) rfl (jx_ccS (As := [.ref a2, .int a1, .int a0]) (rest := []) rfl rfl rfl rfl rfl) (by decide)
  · exact fun d lv st M Q x => jx_k_b1 (jx_fok (by decide +kernel : decode (jx_mb 31) 55 = .ok (.ifCond .eq 5, 3))) rfl jx_hEq
  · exact fun d lv st M Q => jx_ev_st (jx_fok (by decide +kernel : decode (jx_mb 31) 58 = .ok (.iconst 1, 1))) rfl rfl rfl
  · exact fun d lv M Q x => jx_k_rz (jx_fok (by decide +kernel : decode (jx_mb 31) 59 = .ok (.ireturn, 1))) rfl
  · exact fun d st M Q l0 l1 l2 x => jx_ev_st (jx_fok (by decide +kernel : decode (jx_mb 31) 60 = .ok (.iinc 3 1, 3))) rfl rfl rfl
  · exact fun d lv st M Q => jx_k_goto (jx_fok (by decide +kernel : decode (jx_mb 31) 63 = .ok (.goto (-45), 3))) rfl
  · exact fun d lv st M Q => jx_ev_st (jx_fok (by decide +kernel : decode (jx_mb 31) 66 = .ok (.iconst 0, 1))) rfl rfl rfl
  · exact fun d lv M Q x => jx_k_rz (jx_fok (by decide +kernel : decode (jx_mb 31) 67 = .ok (.ireturn, 1))) rfl
theorem eX5_fillFrom_18 (d : Nat) (st : List Value) (M : jx_M) (Q : jx_Po) (l0 l1 l2 : Option Value) (x : Int32) : jx_Ev d 31 18 [l0, l1, l2, some (.int x)] st M Q ↔ jx_Ev d 31 19 [l0, l1, l2, some (.int x)] (.int x :: st) M Q := jx_ev_st (jx_fok (by decide +kernel : decode (jx_mb 31) 18 = .ok (.iload_n 3, 1))) rfl rfl rfl
theorem kX5_fillFrom (d : Nat) (M : jx_M) (q : Int32 → jx_M → Prop) (a0 a1 a2 : Value) : jx_I d 31 [a0, a1, a2] M q ↔ jx_Ev d 31 0 [some a0, some a1, some a2, none] [] M (jx_qI q) := Iff.rfl
set_option maxRecDepth 100000 in
theorem eX6_firstFault :
  (∀ (d : Nat) (st : List Value) (M : jx_M) (Q : jx_Po) (l1 l2 l3 l4 l5 : Option Value) (x : Nat), jx_Ev d 32 0 [some (.ref x), l1, l2, l3, l4, l5] st M Q ↔ jx_Ev d 32 1 [some (.ref x), l1, l2, l3, l4, l5] (.ref x :: st) M Q) ∧
  (∀ (d : Nat) (st : List Value) (M : jx_M) (Q : jx_Po) (l0 l2 l3 l4 l5 : Option Value) (x : Nat), jx_Ev d 32 1 [l0, some (.ref x), l2, l3, l4, l5] st M Q ↔ jx_Ev d 32 2 [l0, some (.ref x), l2, l3, l4, l5] (.ref x :: st) M Q) ∧
  (∀ (d : Nat) (lv : List (Option Value)) (st : List Value) (M : jx_M) (Q : jx_Po) (o : Nat) (ho : o < 56), jx_Ev d 32 2 lv (.ref o :: .ref 2 :: st) M Q ↔ jx_Ev d 32 5 lv st (jx_up M 2 0 (nI o)) Q) ∧
  (∀ (d : Nat) (st : List Value) (M : jx_M) (Q : jx_Po) (l1 l2 l3 l4 l5 : Option Value) (x : Nat), jx_Ev d 32 5 [some (.ref x), l1, l2, l3, l4, l5] st M Q ↔ jx_Ev d 32 6 [some (.ref x), l1, l2, l3, l4, l5] (.ref x :: st) M Q) ∧
  (∀ (d : Nat) (st : List Value) (M : jx_M) (Q : jx_Po) (l0 l1 l2 l3 l5 : Option Value) (x : Nat), jx_Ev d 32 6 [l0, l1, l2, l3, some (.ref x), l5] st M Q ↔ jx_Ev d 32 8 [l0, l1, l2, l3, some (.ref x), l5] (.ref x :: st) M Q) ∧
  (∀ (d : Nat) (lv : List (Option Value)) (st : List Value) (M : jx_M) (Q : jx_Po) (o : Nat) (ho : o < 56), jx_Ev d 32 8 lv (.ref o :: .ref 2 :: st) M Q ↔ jx_Ev d 32 11 lv st (jx_up M 2 1 (nI o)) Q) ∧
  (∀ (d : Nat) (st : List Value) (M : jx_M) (Q : jx_Po) (l1 l2 l3 l4 l5 : Option Value) (x : Nat), jx_Ev d 32 11 [some (.ref x), l1, l2, l3, l4, l5] st M Q ↔ jx_Ev d 32 12 [some (.ref x), l1, l2, l3, l4, l5] (.ref x :: st) M Q) ∧
  (∀ (d : Nat) (st : List Value) (M : jx_M) (Q : jx_Po) (l0 l1 l3 l4 l5 : Option Value) (x : Int32), jx_Ev d 32 12 [l0, l1, some (.int x), l3, l4, l5] st M Q ↔ jx_Ev d 32 13 [l0, l1, some (.int x), l3, l4, l5] (.int x :: st) M Q) ∧
  (∀ (d : Nat) (lv : List (Option Value)) (st : List Value) (M : jx_M) (Q : jx_Po) (x : Int32), jx_Ev d 32 13 lv (.int x :: .ref 2 :: st) M Q ↔ jx_Ev d 32 16 lv st (jx_up M 2 2 x) Q) ∧
  (∀ (d : Nat) (st : List Value) (M : jx_M) (Q : jx_Po) (l1 l2 l3 l4 l5 : Option Value) (x : Nat), jx_Ev d 32 16 [some (.ref x), l1, l2, l3, l4, l5] st M Q ↔ jx_Ev d 32 17 [some (.ref x), l1, l2, l3, l4, l5] (.ref x :: st) M Q) ∧
  (∀ (d : Nat) (st : List Value) (M : jx_M) (Q : jx_Po) (l0 l1 l2 l4 l5 : Option Value) (x : Int32), jx_Ev d 32 17 [l0, l1, l2, some (.int x), l4, l5] st M Q ↔ jx_Ev d 32 18 [l0, l1, l2, some (.int x), l4, l5] (.int x :: st) M Q) ∧
  (∀ (d : Nat) (lv : List (Option Value)) (st : List Value) (M : jx_M) (Q : jx_Po) (x : Int32), jx_Ev d 32 18 lv (.int x :: .ref 2 :: st) M Q ↔ jx_Ev d 32 21 lv st (jx_up M 2 3 x) Q) ∧
  (∀ (d : Nat) (st : List Value) (M : jx_M) (Q : jx_Po) (l1 l2 l3 l4 l5 : Option Value) (x : Nat), jx_Ev d 32 21 [some (.ref x), l1, l2, l3, l4, l5] st M Q ↔ jx_Ev d 32 22 [some (.ref x), l1, l2, l3, l4, l5] (.ref x :: st) M Q) ∧
  (∀ (d : Nat) (lv : List (Option Value)) (st : List Value) (M : jx_M) (Q : jx_Po), jx_Ev d 32 22 lv st M Q ↔ jx_Ev d 32 23 lv (.int 0 :: st) M Q) ∧
  (∀ (d : Nat) (lv : List (Option Value)) (st : List Value) (M : jx_M) (Q : jx_Po) (x : Int32), jx_Ev d 32 23 lv (.int x :: .ref 2 :: st) M Q ↔ jx_Ev d 32 26 lv st (jx_up M 2 4 x) Q) ∧
  (∀ (d : Nat) (st : List Value) (M : jx_M) (Q : jx_Po) (l1 l2 l3 l4 l5 : Option Value) (x : Nat), jx_Ev d 32 26 [some (.ref x), l1, l2, l3, l4, l5] st M Q ↔ jx_Ev d 32 27 [some (.ref x), l1, l2, l3, l4, l5] (.ref x :: st) M Q) ∧
  (∀ (d : Nat) (lv : List (Option Value)) (st : List Value) (M : jx_M) (Q : jx_Po), jx_Ev d 32 27 lv (.ref 2 :: st) M Q ↔ jx_Ev d 32 30 lv (jx_rv (M 2 1) :: st) M Q) ∧
  (∀ (d : Nat) (lv : List (Option Value)) (st : List Value) (M : jx_M) (Q : jx_Po), jx_Ev d 32 30 lv st M Q ↔ jx_Ev d 32 31 lv (.int 0 :: st) M Q) ∧
  (∀ (d : Nat) (lv : List (Option Value)) (st : List Value) (M : jx_M) (Q : jx_Po) (x : Int32) (k : Nat) (hk : jx_cl k = 1), jx_Ev d 32 31 lv (.int x :: .ref k :: st) M Q ↔ jx_Ev d 32 34 lv st (jx_up M k 5 x) Q) ∧
  (∀ (d : Nat) (st : List Value) (M : jx_M) (Q : jx_Po) (l1 l2 l3 l4 l5 : Option Value) (x : Nat), jx_Ev d 32 34 [some (.ref x), l1, l2, l3, l4, l5] st M Q ↔ jx_Ev d 32 35 [some (.ref x), l1, l2, l3, l4, l5] (.ref x :: st) M Q) ∧
  (∀ (d : Nat) (lv : List (Option Value)) (st : List Value) (M : jx_M) (Q : jx_Po), jx_Ev d 32 35 lv (.ref 2 :: st) M Q ↔ jx_Ev d 32 38 lv (jx_rv (M 2 1) :: st) M Q) ∧
  (∀ (d : Nat) (lv : List (Option Value)) (st : List Value) (M : jx_M) (Q : jx_Po), jx_Ev d 32 38 lv st M Q ↔ jx_Ev d 32 39 lv (.int 0 :: st) M Q) ∧
  (∀ (d : Nat) (lv : List (Option Value)) (st : List Value) (M : jx_M) (Q : jx_Po) (x : Int32) (k : Nat) (hk : jx_cl k = 1), jx_Ev d 32 39 lv (.int x :: .ref k :: st) M Q ↔ jx_Ev d 32 42 lv st (jx_up M k 6 x) Q) ∧
  (∀ (d : Nat) (st : List Value) (M : jx_M) (Q : jx_Po) (l1 l2 l3 l4 l5 : Option Value) (x : Nat), jx_Ev d 32 42 [some (.ref x), l1, l2, l3, l4, l5] st M Q ↔ jx_Ev d 32 43 [some (.ref x), l1, l2, l3, l4, l5] (.ref x :: st) M Q) ∧
  (∀ (d : Nat) (lv : List (Option Value)) (M : jx_M) (Q : jx_Po), jx_Ev (d + 1) 32 43 lv [.ref 2] M Q ↔ jx_I d 33 [.ref 2] M (fun x M => jx_Ev (d + 1) 32 46 lv (.int x :: []) M Q)) ∧
  (∀ (d : Nat) (lv : List (Option Value)) (st : List Value) (M : jx_M) (Q : jx_Po) (x : Int32), jx_Ev d 32 46 lv (.int x :: st) M Q ↔ (if x = 0 then jx_Ev d 32 78 lv st M Q else jx_Ev d 32 49 lv st M Q)) ∧
  (∀ (d : Nat) (st : List Value) (M : jx_M) (Q : jx_Po) (l1 l2 l3 l4 l5 : Option Value) (x : Nat), jx_Ev d 32 49 [some (.ref x), l1, l2, l3, l4, l5] st M Q ↔ jx_Ev d 32 50 [some (.ref x), l1, l2, l3, l4, l5] (.ref x :: st) M Q) ∧
  (∀ (d : Nat) (lv : List (Option Value)) (M : jx_M) (Q : jx_Po), jx_Ev (d + 1) 32 50 lv [.ref 2] M Q ↔ jx_I d 34 [.ref 2] M (fun x M => jx_Ev (d + 1) 32 53 lv (.int x :: []) M Q)) ∧
  (∀ (d : Nat) (lv : List (Option Value)) (st : List Value) (M : jx_M) (Q : jx_Po) (x : Int32), jx_Ev d 32 53 lv (.int x :: st) M Q ↔ (if x = 0 then jx_Ev d 32 78 lv st M Q else jx_Ev d 32 56 lv st M Q)) ∧
  (∀ (d : Nat) (st : List Value) (M : jx_M) (Q : jx_Po) (l1 l2 l3 l4 l5 : Option Value) (x : Nat), jx_Ev d 32 56 [some (.ref x), l1, l2, l3, l4, l5] st M Q ↔ jx_Ev d 32 57 [some (.ref x), l1, l2, l3, l4, l5] (.ref x :: st) M Q) ∧
  (∀ (d : Nat) (lv : List (Option Value)) (M : jx_M) (Q : jx_Po), jx_Ev (d + 1) 32 57 lv [.ref 2] M Q ↔ jx_I d 36 [.ref 2] M (fun x M => jx_Ev (d + 1) 32 60 lv (.int x :: []) M Q)) ∧
  (∀ (d : Nat) (lv : List (Option Value)) (st : List Value) (M : jx_M) (Q : jx_Po) (x : Int32), jx_Ev d 32 60 lv (.int x :: st) M Q ↔ (if x = 0 then jx_Ev d 32 78 lv st M Q else jx_Ev d 32 63 lv st M Q)) ∧
  (∀ (d : Nat) (st : List Value) (M : jx_M) (Q : jx_Po) (l1 l2 l3 l4 l5 : Option Value) (x : Nat), jx_Ev d 32 63 [some (.ref x), l1, l2, l3, l4, l5] st M Q ↔ jx_Ev d 32 64 [some (.ref x), l1, l2, l3, l4, l5] (.ref x :: st) M Q) ∧
  (∀ (d : Nat) (lv : List (Option Value)) (st : List Value) (M : jx_M) (Q : jx_Po), jx_Ev d 32 64 lv (.ref 2 :: st) M Q ↔ jx_Ev d 32 67 lv (.int (M 2 4) :: st) M Q) ∧
  (∀ (d : Nat) (st : List Value) (M : jx_M) (Q : jx_Po) (l1 l2 l3 l4 l5 : Option Value) (x : Nat), jx_Ev d 32 67 [some (.ref x), l1, l2, l3, l4, l5] st M Q ↔ jx_Ev d 32 68 [some (.ref x), l1, l2, l3, l4, l5] (.ref x :: st) M Q) ∧
  (∀ (d : Nat) (lv : List (Option Value)) (st : List Value) (M : jx_M) (Q : jx_Po), jx_Ev d 32 68 lv (.ref 2 :: st) M Q ↔ jx_Ev d 32 71 lv (.int (M 2 3) :: st) M Q) ∧
  (∀ (d : Nat) (lv : List (Option Value)) (st : List Value) (M : jx_M) (Q : jx_Po) (x z : Int32), jx_Ev d 32 71 lv (.int z :: .int x :: st) M Q ↔ (if x = z then jx_Ev d 32 74 lv st M Q else jx_Ev d 32 78 lv st M Q)) ∧
  (∀ (d : Nat) (lv : List (Option Value)) (st : List Value) (M : jx_M) (Q : jx_Po), jx_Ev d 32 74 lv st M Q ↔ jx_Ev d 32 75 lv (.int 1 :: st) M Q) ∧
  (∀ (d : Nat) (lv : List (Option Value)) (st : List Value) (M : jx_M) (Q : jx_Po), jx_Ev d 32 75 lv st M Q ↔ jx_Ev d 32 79 lv st M Q) ∧
  (∀ (d : Nat) (lv : List (Option Value)) (st : List Value) (M : jx_M) (Q : jx_Po), jx_Ev d 32 78 lv st M Q ↔ jx_Ev d 32 79 lv (.int 0 :: st) M Q) ∧
  (∀ (d : Nat) (st : List Value) (M : jx_M) (Q : jx_Po) (l0 l1 l2 l3 l4 l5 : Option Value) (x : Int32), jx_Ev d 32 79 [l0, l1, l2, l3, l4, l5] (.int x :: st) M Q ↔ jx_Ev d 32 81 [l0, l1, l2, l3, l4, some (.int x)] st M Q) ∧
  (∀ (d : Nat) (st : List Value) (M : jx_M) (Q : jx_Po) (l0 l1 l2 l3 l4 : Option Value) (x : Int32), jx_Ev d 32 81 [l0, l1, l2, l3, l4, some (.int x)] st M Q ↔ jx_Ev d 32 83 [l0, l1, l2, l3, l4, some (.int x)] (.int x :: st) M Q) ∧
  (∀ (d : Nat) (lv : List (Option Value)) (st : List Value) (M : jx_M) (Q : jx_Po) (x : Int32), jx_Ev d 32 83 lv (.int x :: st) M Q ↔ (if x = 0 then jx_Ev d 32 91 lv st M Q else jx_Ev d 32 86 lv st M Q)) ∧
  (∀ (d : Nat) (lv : List (Option Value)) (st : List Value) (M : jx_M) (Q : jx_Po), jx_Ev d 32 86 lv st M Q ↔ jx_Ev d 32 88 lv (.int (-9) :: st) M Q) ∧
  (∀ (d : Nat) (lv : List (Option Value)) (st : List Value) (M : jx_M) (Q : jx_Po), jx_Ev d 32 88 lv st M Q ↔ jx_Ev d 32 95 lv st M Q) ∧
  (∀ (d : Nat) (st : List Value) (M : jx_M) (Q : jx_Po) (l1 l2 l3 l4 l5 : Option Value) (x : Nat), jx_Ev d 32 91 [some (.ref x), l1, l2, l3, l4, l5] st M Q ↔ jx_Ev d 32 92 [some (.ref x), l1, l2, l3, l4, l5] (.ref x :: st) M Q) ∧
  (∀ (d : Nat) (lv : List (Option Value)) (st : List Value) (M : jx_M) (Q : jx_Po), jx_Ev d 32 92 lv (.ref 2 :: st) M Q ↔ jx_Ev d 32 95 lv (.int (M 2 4) :: st) M Q) ∧
  (∀ (d : Nat) (lv : List (Option Value)) (M : jx_M) (Q : jx_Po) (x : Int32), jx_Ev d 32 95 lv [.int x] M Q ↔ Q [.int x] M) := by
  refine ⟨?_, ?_, ?_, ?_, ?_, ?_, ?_, ?_, ?_, ?_, ?_, ?_, ?_, ?_, ?_, ?_, ?_, ?_, ?_, ?_, ?_, ?_, ?_, ?_, ?_, ?_, ?_, ?_, ?_, ?_, ?_, ?_, ?_, ?_, ?_, ?_, ?_, ?_, ?_, ?_, ?_, ?_, ?_, ?_, ?_, ?_, ?_, ?_⟩
  · exact fun d st M Q l1 l2 l3 l4 l5 x => jx_ev_st (jx_fok (by decide +kernel : decode (jx_mb 32) 0 = .ok (.aload_n 0, 1))) rfl rfl rfl
  · exact fun d st M Q l0 l2 l3 l4 l5 x => jx_ev_st (jx_fok (by decide +kernel : decode (jx_mb 32) 1 = .ok (.aload_n 1, 1))) rfl rfl rfl
  · exact fun d lv st M Q o ho => jx_k_pf2 (jx_fok (by decide +kernel : decode (jx_mb 32) 2 = .ok (.putfield 9, 3))) rfl rfl rfl ho
  · exact fun d st M Q l1 l2 l3 l4 l5 x => jx_ev_st (jx_fok (by decide +kernel : decode (jx_mb 32) 5 = .ok (.aload_n 0, 1))) rfl rfl rfl
  · exact fun d st M Q l0 l1 l2 l3 l5 x => jx_ev_st (jx_fok (by decide +kernel : decode (jx_mb 32) 6 = .ok (.aload 4, 2))) rfl rfl rfl
  · exact fun d lv st M Q o ho => jx_k_pf2 (jx_fok (by decide +kernel : decode (jx_mb 32) 8 = .ok (.putfield 15, 3))) rfl rfl rfl ho
  · exact fun d st M Q l1 l2 l3 l4 l5 x => jx_ev_st (jx_fok (by decide +kernel : decode (jx_mb 32) 11 = .ok (.aload_n 0, 1))) rfl rfl rfl
  · exact fun d st M Q l0 l1 l3 l4 l5 x => jx_ev_st (jx_fok (by decide +kernel : decode (jx_mb 32) 12 = .ok (.iload_n 2, 1))) rfl rfl rfl
  · exact fun d lv st M Q x => jx_k_pf0 (jx_fok (by decide +kernel : decode (jx_mb 32) 13 = .ok (.putfield 19, 3))) rfl rfl rfl
  · exact fun d st M Q l1 l2 l3 l4 l5 x => jx_ev_st (jx_fok (by decide +kernel : decode (jx_mb 32) 16 = .ok (.aload_n 0, 1))) rfl rfl rfl
  · exact fun d st M Q l0 l1 l2 l4 l5 x => jx_ev_st (jx_fok (by decide +kernel : decode (jx_mb 32) 17 = .ok (.iload_n 3, 1))) rfl rfl rfl
  · exact fun d lv st M Q x => jx_k_pf0 (jx_fok (by decide +kernel : decode (jx_mb 32) 18 = .ok (.putfield 23, 3))) rfl rfl rfl
  · exact fun d st M Q l1 l2 l3 l4 l5 x => jx_ev_st (jx_fok (by decide +kernel : decode (jx_mb 32) 21 = .ok (.aload_n 0, 1))) rfl rfl rfl
  · exact fun d lv st M Q => jx_ev_st (jx_fok (by decide +kernel : decode (jx_mb 32) 22 = .ok (.iconst 0, 1))) rfl rfl rfl
  · exact fun d lv st M Q x => jx_k_pf0 (jx_fok (by decide +kernel : decode (jx_mb 32) 23 = .ok (.putfield 26, 3))) rfl rfl rfl
  · exact fun d st M Q l1 l2 l3 l4 l5 x => jx_ev_st (jx_fok (by decide +kernel : decode (jx_mb 32) 26 = .ok (.aload_n 0, 1))) rfl rfl rfl
  · exact fun d lv st M Q => jx_k_gf (jx_fok (by decide +kernel : decode (jx_mb 32) 27 = .ok (.getfield 15, 3))) rfl rfl rfl
  · exact fun d lv st M Q => jx_ev_st (jx_fok (by decide +kernel : decode (jx_mb 32) 30 = .ok (.iconst 0, 1))) rfl rfl rfl
  · exact fun d lv st M Q x k hk => jx_k_pf0 (jx_fok (by decide +kernel : decode (jx_mb 32) 31 = .ok (.putfield 29, 3))) rfl hk rfl
  · exact fun d st M Q l1 l2 l3 l4 l5 x => jx_ev_st (jx_fok (by decide +kernel : decode (jx_mb 32) 34 = .ok (.aload_n 0, 1))) rfl rfl rfl
  · exact fun d lv st M Q => jx_k_gf (jx_fok (by decide +kernel : decode (jx_mb 32) 35 = .ok (.getfield 15, 3))) rfl rfl rfl
  · exact fun d lv st M Q => jx_ev_st (jx_fok (by decide +kernel : decode (jx_mb 32) 38 = .ok (.iconst 0, 1))) rfl rfl rfl
  · exact fun d lv st M Q x k hk => jx_k_pf0 (jx_fok (by decide +kernel : decode (jx_mb 32) 39 = .ok (.putfield 34, 3))) rfl hk rfl
  · exact fun d st M Q l1 l2 l3 l4 l5 x => jx_ev_st (jx_fok (by decide +kernel : decode (jx_mb 32) 42 = .ok (.aload_n 0, 1))) rfl rfl rfl
  · exact fun d lv M Q => jx_ev_ci (jx_fok (by decide +kernel : decode (jx_mb 32) 43 = .ok (.invokevirtual 37, 3))) rfl (jx_ccV (As := []) (rest := []) rfl rfl rfl rfl rfl rfl) (by decide)
  · exact fun d lv st M Q x => jx_k_b1 (jx_fok (by decide +kernel : decode (jx_mb 32) 46 = .ok (.ifCond .eq 32, 3))) rfl jx_hEq
  · exact fun d st M Q l1 l2 l3 l4 l5 x => jx_ev_st (jx_fok (by decide +kernel : decode (jx_mb 32) 49 = .ok (.aload_n 0, 1))) rfl rfl rfl
  · exact fun d lv M Q => jx_ev_ci (jx_fok (by decide +kernel : decode (jx_mb 32) 50 = .ok (.invokevirtual 41, 3))) rfl (jx_ccV (As := []) (rest := []) rfl rfl rfl rfl rfl rfl) (by decide)
  · exact fun d lv st M Q x => jx_k_b1 (jx_fok (by decide +kernel : decode (jx_mb 32) 53 = .ok (.ifCond .eq 25, 3))) rfl jx_hEq
  · exact fun d st M Q l1 l2 l3 l4 l5 x => jx_ev_st (jx_fok (by decide +kernel : decode (jx_mb 32) 56 = .ok (.aload_n 0, 1))) rfl rfl rfl
  · exact fun d lv M Q => jx_ev_ci (jx_fok (by decide +kernel : decode (jx_mb 32) 57 = .ok (.invokevirtual 44, 3))) rfl (jx_ccV (As := []) (rest := []) rfl rfl rfl rfl rfl rfl) (by decide)
  · exact fun d lv st M Q x => jx_k_b1 (jx_fok (by decide +kernel : decode (jx_mb 32) 60 = .ok (.ifCond .eq 18, 3))) rfl jx_hEq
  · exact fun d st M Q l1 l2 l3 l4 l5 x => jx_ev_st (jx_fok (by decide +kernel : decode (jx_mb 32) 63 = .ok (.aload_n 0, 1))) rfl rfl rfl
  · exact fun d lv st M Q => jx_k_gf (jx_fok (by decide +kernel : decode (jx_mb 32) 64 = .ok (.getfield 26, 3))) rfl rfl rfl
  · exact fun d st M Q l1 l2 l3 l4 l5 x => jx_ev_st (jx_fok (by decide +kernel : decode (jx_mb 32) 67 = .ok (.aload_n 0, 1))) rfl rfl rfl
  · exact fun d lv st M Q => jx_k_gf (jx_fok (by decide +kernel : decode (jx_mb 32) 68 = .ok (.getfield 23, 3))) rfl rfl rfl
  · exact fun d lv st M Q x z => jx_k_b2n (jx_fok (by decide +kernel : decode (jx_mb 32) 71 = .ok (.if_icmp .ne 7, 3))) rfl jx_hNe
  · exact fun d lv st M Q => jx_ev_st (jx_fok (by decide +kernel : decode (jx_mb 32) 74 = .ok (.iconst 1, 1))) rfl rfl rfl
  · exact fun d lv st M Q => jx_k_goto (jx_fok (by decide +kernel : decode (jx_mb 32) 75 = .ok (.goto 4, 3))) rfl
  · exact fun d lv st M Q => jx_ev_st (jx_fok (by decide +kernel : decode (jx_mb 32) 78 = .ok (.iconst 0, 1))) rfl rfl rfl
  · exact fun d st M Q l0 l1 l2 l3 l4 l5 x => jx_ev_st (jx_fok (by decide +kernel : decode (jx_mb 32) 79 = .ok (.istore 5, 2))) rfl rfl rfl
  · exact fun d st M Q l0 l1 l2 l3 l4 x => jx_ev_st (jx_fok (by decide +kernel : decode (jx_mb 32) 81 = .ok (.iload 5, 2))) rfl rfl rfl
  · exact fun d lv st M Q x => jx_k_b1 (jx_fok (by decide +kernel : decode (jx_mb 32) 83 = .ok (.ifCond .eq 8, 3))) rfl jx_hEq
  · exact fun d lv st M Q => jx_ev_st (jx_fok (by decide +kernel : decode (jx_mb 32) 86 = .ok (.bipush (-9), 2))) rfl rfl rfl
  · exact fun d lv st M Q => jx_k_goto (jx_fok (by decide +kernel : decode (jx_mb 32) 88 = .ok (.goto 7, 3))) rfl
  · exact fun d st M Q l1 l2 l3 l4 l5 x => jx_ev_st (jx_fok (by decide +kernel : decode (jx_mb 32) 91 = .ok (.aload_n 0, 1))) rfl rfl rfl
  · exact fun d lv st M Q => jx_k_gf (jx_fok (by decide +kernel : decode (jx_mb 32) 92 = .ok (.getfield 26, 3))) rfl rfl rfl
  · exact fun d lv M Q x => jx_k_ri (jx_fok (by decide +kernel : decode (jx_mb 32) 95 = .ok (.ireturn, 1))) rfl
theorem kX6_firstFault (d : Nat) (M : jx_M) (q : Int32 → jx_M → Prop) (a0 a1 a2 a3 a4 : Value) : jx_I d 32 [a0, a1, a2, a3, a4] M q ↔ jx_Ev d 32 0 [some a0, some a1, some a2, some a3, some a4, none] [] M (jx_qI q) := Iff.rfl
set_option maxRecDepth 100000 in
theorem eX6_readsHead :
  (∀ (d : Nat) (st : List Value) (M : jx_M) (Q : jx_Po) (x : Nat), jx_Ev d 33 0 [some (.ref x)] st M Q ↔ jx_Ev d 33 1 [some (.ref x)] (.ref x :: st) M Q) ∧
  (∀ (d : Nat) (lv : List (Option Value)) (st : List Value) (M : jx_M) (Q : jx_Po), jx_Ev d 33 1 lv st M Q ↔ jx_Ev d 33 3 lv (.int 116 :: st) M Q) ∧
  (∀ (d : Nat) (lv : List (Option Value)) (M : jx_M) (Q : jx_Po) (a0 : Int32), jx_Ev (d + 1) 33 3 lv [.int a0, .ref 2] M Q ↔ jx_I d 41 [.ref 2, .int a0] M (fun x M => jx_Ev (d + 1) 33 6 lv (.int x :: []) M Q)) ∧
  (∀ (d : Nat) (lv : List (Option Value)) (st : List Value) (M : jx_M) (Q : jx_Po) (x : Int32), jx_Ev d 33 6 lv (.int x :: st) M Q ↔ (if x = 0 then jx_Ev d 33 9 lv st M Q else jx_Ev d 33 11 lv st M Q)) ∧
  (∀ (d : Nat) (lv : List (Option Value)) (st : List Value) (M : jx_M) (Q : jx_Po), jx_Ev d 33 9 lv st M Q ↔ jx_Ev d 33 10 lv (.int 0 :: st) M Q) ∧
  (∀ (d : Nat) (lv : List (Option Value)) (M : jx_M) (Q : jx_Po) (x : Int32), jx_Ev d 33 10 lv [.int x] M Q ↔ ((x = 0 ∨ x = 1) ∧ Q [.int x] M)) ∧
  (∀ (d : Nat) (st : List Value) (M : jx_M) (Q : jx_Po) (x : Nat), jx_Ev d 33 11 [some (.ref x)] st M Q ↔ jx_Ev d 33 12 [some (.ref x)] (.ref x :: st) M Q) ∧
  (∀ (d : Nat) (lv : List (Option Value)) (st : List Value) (M : jx_M) (Q : jx_Po), jx_Ev d 33 12 lv (.ref 2 :: st) M Q ↔ jx_Ev d 33 15 lv (jx_rv (M 2 1) :: st) M Q) ∧
  (∀ (d : Nat) (st : List Value) (M : jx_M) (Q : jx_Po) (x : Nat), jx_Ev d 33 15 [some (.ref x)] st M Q ↔ jx_Ev d 33 16 [some (.ref x)] (.ref x :: st) M Q) ∧
  (∀ (d : Nat) (lv : List (Option Value)) (st : List Value) (M : jx_M) (Q : jx_Po), jx_Ev d 33 16 lv st M Q ↔ jx_Ev d 33 17 lv (.int 0 :: st) M Q) ∧
  (∀ (d : Nat) (lv : List (Option Value)) (st : List Value) (M : jx_M) (Q : jx_Po), jx_Ev d 33 17 lv st M Q ↔ jx_Ev d 33 18 lv (.int 3 :: st) M Q) ∧
  (∀ (d : Nat) (lv : List (Option Value)) (M : jx_M) (Q : jx_Po) (a0 : Int32) (a1 : Int32) (a3 : Nat), jx_Ev (d + 1) 33 18 lv [.int a0, .int a1, .ref 2, .ref a3] M Q ↔ jx_I d 40 [.ref 2, .int a1, .int a0] M (fun x M => jx_Ev (d + 1) 33 21 lv (.int x :: [.ref a3]) M Q)) ∧
  (∀ (d : Nat) (lv : List (Option Value)) (st : List Value) (M : jx_M) (Q : jx_Po) (x : Int32) (k : Nat) (hk : jx_cl k = 1), jx_Ev d 33 21 lv (.int x :: .ref k :: st) M Q ↔ jx_Ev d 33 24 lv st (jx_up M k 7 x) Q) ∧
  (∀ (d : Nat) (st : List Value) (M : jx_M) (Q : jx_Po) (x : Nat), jx_Ev d 33 24 [some (.ref x)] st M Q ↔ jx_Ev d 33 25 [some (.ref x)] (.ref x :: st) M Q) ∧
  (∀ (d : Nat) (lv : List (Option Value)) (st : List Value) (M : jx_M) (Q : jx_Po), jx_Ev d 33 25 lv (.ref 2 :: st) M Q ↔ jx_Ev d 33 28 lv (jx_rv (M 2 1) :: st) M Q) ∧
  (∀ (d : Nat) (lv : List (Option Value)) (st : List Value) (M : jx_M) (Q : jx_Po) (k : Nat) (hk : jx_cl k = 1), jx_Ev d 33 28 lv (.ref k :: st) M Q ↔ jx_Ev d 33 31 lv (.int (M k 7) :: st) M Q) ∧
  (∀ (d : Nat) (lv : List (Option Value)) (st : List Value) (M : jx_M) (Q : jx_Po) (x : Int32), jx_Ev d 33 31 lv (.int x :: st) M Q ↔ (if 0 ≤ x then jx_Ev d 33 36 lv st M Q else jx_Ev d 33 34 lv st M Q)) ∧
  (∀ (d : Nat) (lv : List (Option Value)) (st : List Value) (M : jx_M) (Q : jx_Po), jx_Ev d 33 34 lv st M Q ↔ jx_Ev d 33 35 lv (.int 0 :: st) M Q) ∧
  (∀ (d : Nat) (lv : List (Option Value)) (M : jx_M) (Q : jx_Po) (x : Int32), jx_Ev d 33 35 lv [.int x] M Q ↔ ((x = 0 ∨ x = 1) ∧ Q [.int x] M)) ∧
  (∀ (d : Nat) (st : List Value) (M : jx_M) (Q : jx_Po) (x : Nat), jx_Ev d 33 36 [some (.ref x)] st M Q ↔ jx_Ev d 33 37 [some (.ref x)] (.ref x :: st) M Q) ∧
  (∀ (d : Nat) (lv : List (Option Value)) (st : List Value) (M : jx_M) (Q : jx_Po), jx_Ev d 33 37 lv (.ref 2 :: st) M Q ↔ jx_Ev d 33 40 lv (jx_rv (M 2 1) :: st) M Q) ∧
  (∀ (d : Nat) (st : List Value) (M : jx_M) (Q : jx_Po) (x : Nat), jx_Ev d 33 40 [some (.ref x)] st M Q ↔ jx_Ev d 33 41 [some (.ref x)] (.ref x :: st) M Q) ∧
  (∀ (d : Nat) (lv : List (Option Value)) (st : List Value) (M : jx_M) (Q : jx_Po), jx_Ev d 33 41 lv st M Q ↔ jx_Ev d 33 42 lv (.int 0 :: st) M Q) ∧
  (∀ (d : Nat) (lv : List (Option Value)) (st : List Value) (M : jx_M) (Q : jx_Po), jx_Ev d 33 42 lv st M Q ↔ jx_Ev d 33 44 lv (.int 9 :: st) M Q) ∧
  (∀ (d : Nat) (lv : List (Option Value)) (M : jx_M) (Q : jx_Po) (a0 : Int32) (a1 : Int32) (a3 : Nat), jx_Ev (d + 1) 33 44 lv [.int a0, .int a1, .ref 2, .ref a3] M Q ↔ jx_I d 40 [.ref 2, .int a1, .int a0] M (fun x M => jx_Ev (d + 1) 33 47 lv (.int x :: [.ref a3]) M Q)) ∧
  (∀ (d : Nat) (lv : List (Option Value)) (st : List Value) (M : jx_M) (Q : jx_Po) (x : Int32) (k : Nat) (hk : jx_cl k = 1), jx_Ev d 33 47 lv (.int x :: .ref k :: st) M Q ↔ jx_Ev d 33 50 lv st (jx_up M k 8 x) Q) ∧
  (∀ (d : Nat) (st : List Value) (M : jx_M) (Q : jx_Po) (x : Nat), jx_Ev d 33 50 [some (.ref x)] st M Q ↔ jx_Ev d 33 51 [some (.ref x)] (.ref x :: st) M Q) ∧
  (∀ (d : Nat) (lv : List (Option Value)) (st : List Value) (M : jx_M) (Q : jx_Po), jx_Ev d 33 51 lv (.ref 2 :: st) M Q ↔ jx_Ev d 33 54 lv (jx_rv (M 2 1) :: st) M Q) ∧
  (∀ (d : Nat) (lv : List (Option Value)) (st : List Value) (M : jx_M) (Q : jx_Po) (k : Nat) (hk : jx_cl k = 1), jx_Ev d 33 54 lv (.ref k :: st) M Q ↔ jx_Ev d 33 57 lv (.int (M k 8) :: st) M Q) ∧
  (∀ (d : Nat) (lv : List (Option Value)) (st : List Value) (M : jx_M) (Q : jx_Po) (x : Int32), jx_Ev d 33 57 lv (.int x :: st) M Q ↔ (if x < 0 then jx_Ev d 33 64 lv st M Q else jx_Ev d 33 60 lv st M Q)) ∧
  (∀ (d : Nat) (lv : List (Option Value)) (st : List Value) (M : jx_M) (Q : jx_Po), jx_Ev d 33 60 lv st M Q ↔ jx_Ev d 33 61 lv (.int 1 :: st) M Q) ∧
  (∀ (d : Nat) (lv : List (Option Value)) (st : List Value) (M : jx_M) (Q : jx_Po), jx_Ev d 33 61 lv st M Q ↔ jx_Ev d 33 65 lv st M Q) ∧
  (∀ (d : Nat) (lv : List (Option Value)) (st : List Value) (M : jx_M) (Q : jx_Po), jx_Ev d 33 64 lv st M Q ↔ jx_Ev d 33 65 lv (.int 0 :: st) M Q) ∧
  (∀ (d : Nat) (lv : List (Option Value)) (M : jx_M) (Q : jx_Po) (x : Int32), jx_Ev d 33 65 lv [.int x] M Q ↔ ((x = 0 ∨ x = 1) ∧ Q [.int x] M)) := by
  refine ⟨?_, ?_, ?_, ?_, ?_, ?_, ?_, ?_, ?_, ?_, ?_, ?_, ?_, ?_, ?_, ?_, ?_, ?_, ?_, ?_, ?_, ?_, ?_, ?_, ?_, ?_, ?_, ?_, ?_, ?_, ?_, ?_, ?_, ?_⟩
  · exact fun d st M Q x => jx_ev_st (jx_fok (by decide +kernel : decode (jx_mb 33) 0 = .ok (.aload_n 0, 1))) rfl rfl rfl
  · exact fun d lv st M Q => jx_ev_st (jx_fok (by decide +kernel : decode (jx_mb 33) 1 = .ok (.bipush 116, 2))) rfl rfl rfl
  · exact fun d lv M Q a0 => jx_ev_ci (jx_fok (by decide +kernel : decode (jx_mb 33) 3 = .ok (.invokevirtual 47, 3))) rfl (jx_ccV (As := [.int a0]) (rest := []) rfl rfl rfl rfl rfl rfl) (by decide)
  · exact fun d lv st M Q x => jx_k_b1n (jx_fok (by decide +kernel : decode (jx_mb 33) 6 = .ok (.ifCond .ne 5, 3))) rfl jx_hNe
  · exact fun d lv st M Q => jx_ev_st (jx_fok (by decide +kernel : decode (jx_mb 33) 9 = .ok (.iconst 0, 1))) rfl rfl rfl
  · exact fun d lv M Q x => jx_k_rz (jx_fok (by decide +kernel : decode (jx_mb 33) 10 = .ok (.ireturn, 1))) rfl
  · exact fun d st M Q x => jx_ev_st (jx_fok (by decide +kernel : decode (jx_mb 33) 11 = .ok (.aload_n 0, 1))) rfl rfl rfl
  · exact fun d lv st M Q => jx_k_gf (jx_fok (by decide +kernel : decode (jx_mb 33) 12 = .ok (.getfield 15, 3))) rfl rfl rfl
  · exact fun d st M Q x => jx_ev_st (jx_fok (by decide +kernel : decode (jx_mb 33) 15 = .ok (.aload_n 0, 1))) rfl rfl rfl
  · exact fun d lv st M Q => jx_ev_st (jx_fok (by decide +kernel : decode (jx_mb 33) 16 = .ok (.iconst 0, 1))) rfl rfl rfl
  · exact fun d lv st M Q => jx_ev_st (jx_fok (by decide +kernel : decode (jx_mb 33) 17 = .ok (.iconst 3, 1))) rfl rfl rfl
  · exact fun d lv M Q a0 a1 a3 => jx_ev_ci (jx_fok (by decide +kernel : decode (jx_mb 33) 18 = .ok (.invokevirtual 51, 3))) rfl (jx_ccV (As := [.int a1, .int a0]) (rest := [.ref a3]) rfl rfl rfl rfl rfl rfl) (by decide)
  · exact fun d lv st M Q x k hk => jx_k_pf0 (jx_fok (by decide +kernel : decode (jx_mb 33) 21 = .ok (.putfield 55, 3))) rfl hk rfl
  · exact fun d st M Q x => jx_ev_st (jx_fok (by decide +kernel : decode (jx_mb 33) 24 = .ok (.aload_n 0, 1))) rfl rfl rfl
  · exact fun d lv st M Q => jx_k_gf (jx_fok (by decide +kernel : decode (jx_mb 33) 25 = .ok (.getfield 15, 3))) rfl rfl rfl
  · exact fun d lv st M Q k hk => jx_k_gf (jx_fok (by decide +kernel : decode (jx_mb 33) 28 = .ok (.getfield 55, 3))) rfl hk rfl
  · exact fun d lv st M Q x => jx_k_b1 (jx_fok (by decide +kernel : decode (jx_mb 33) 31 = .ok (.ifCond .ge 5, 3))) rfl jx_hGe
  · exact fun d lv st M Q => jx_ev_st (jx_fok (by decide +kernel : decode (jx_mb 33) 34 = .ok (.iconst 0, 1))) rfl rfl rfl
  · exact fun d lv M Q x => jx_k_rz (jx_fok (by decide +kernel : decode (jx_mb 33) 35 = .ok (.ireturn, 1))) rfl
  · exact fun d st M Q x => jx_ev_st (jx_fok (by decide +kernel : decode (jx_mb 33) 36 = .ok (.aload_n 0, 1))) rfl rfl rfl
  · exact fun d lv st M Q => jx_k_gf (jx_fok (by decide +kernel : decode (jx_mb 33) 37 = .ok (.getfield 15, 3))) rfl rfl rfl
  · exact fun d st M Q x => jx_ev_st (jx_fok (by decide +kernel : decode (jx_mb 33) 40 = .ok (.aload_n 0, 1))) rfl rfl rfl
  · exact fun d lv st M Q => jx_ev_st (jx_fok (by decide +kernel : decode (jx_mb 33) 41 = .ok (.iconst 0, 1))) rfl rfl rfl
  · exact fun d lv st M Q => jx_ev_st (jx_fok (by decide +kernel : decode (jx_mb 33) 42 = .ok (.bipush 9, 2))) rfl rfl rfl
  · exact fun d lv M Q a0 a1 a3 => jx_ev_ci (jx_fok (by decide +kernel : decode (jx_mb 33) 44 = .ok (.invokevirtual 51, 3))) rfl (jx_ccV (As := [.int a1, .int a0]) (rest := [.ref a3]) rfl rfl rfl rfl rfl rfl) (by decide)
  · exact fun d lv st M Q x k hk => jx_k_pf0 (jx_fok (by decide +kernel : decode (jx_mb 33) 47 = .ok (.putfield 58, 3))) rfl hk rfl
  · exact fun d st M Q x => jx_ev_st (jx_fok (by decide +kernel : decode (jx_mb 33) 50 = .ok (.aload_n 0, 1))) rfl rfl rfl
  · exact fun d lv st M Q => jx_k_gf (jx_fok (by decide +kernel : decode (jx_mb 33) 51 = .ok (.getfield 15, 3))) rfl rfl rfl
  · exact fun d lv st M Q k hk => jx_k_gf (jx_fok (by decide +kernel : decode (jx_mb 33) 54 = .ok (.getfield 58, 3))) rfl hk rfl
  · exact fun d lv st M Q x => jx_k_b1 (jx_fok (by decide +kernel : decode (jx_mb 33) 57 = .ok (.ifCond .lt 7, 3))) rfl jx_hLt
  · exact fun d lv st M Q => jx_ev_st (jx_fok (by decide +kernel : decode (jx_mb 33) 60 = .ok (.iconst 1, 1))) rfl rfl rfl
  · exact fun d lv st M Q => jx_k_goto (jx_fok (by decide +kernel : decode (jx_mb 33) 61 = .ok (.goto 4, 3))) rfl
  · exact fun d lv st M Q => jx_ev_st (jx_fok (by decide +kernel : decode (jx_mb 33) 64 = .ok (.iconst 0, 1))) rfl rfl rfl
  · exact fun d lv M Q x => jx_k_rz (jx_fok (by decide +kernel : decode (jx_mb 33) 65 = .ok (.ireturn, 1))) rfl
theorem kX6_readsHead (d : Nat) (M : jx_M) (q : Int32 → jx_M → Prop) (a0 : Value) : jx_I d 33 [a0] M q ↔ jx_Ev d 33 0 [some a0] [] M (jx_qI q) := Iff.rfl
set_option maxRecDepth 100000 in
theorem eX6_readsPeople :
  (∀ (d : Nat) (lv : List (Option Value)) (st : List Value) (M : jx_M) (Q : jx_Po), jx_Ev d 34 0 lv st M Q ↔ jx_Ev d 34 1 lv (.int 0 :: st) M Q) ∧
  (∀ (d : Nat) (st : List Value) (M : jx_M) (Q : jx_Po) (l0 l1 : Option Value) (x : Int32), jx_Ev d 34 1 [l0, l1] (.int x :: st) M Q ↔ jx_Ev d 34 2 [l0, some (.int x)] st M Q) ∧
  (∀ (d : Nat) (lv : List (Option Value)) (st : List Value) (M : jx_M) (Q : jx_Po), jx_Ev d 34 3 lv st M Q ↔ jx_Ev d 34 4 lv (.int 5 :: st) M Q) ∧
  (∀ (d : Nat) (lv : List (Option Value)) (st : List Value) (M : jx_M) (Q : jx_Po) (x z : Int32), jx_Ev d 34 4 lv (.int z :: .int x :: st) M Q ↔ (if z ≤ x then jx_Ev d 34 42 lv st M Q else jx_Ev d 34 7 lv st M Q)) ∧
  (∀ (d : Nat) (st : List Value) (M : jx_M) (Q : jx_Po) (l1 : Option Value) (x : Nat), jx_Ev d 34 7 [some (.ref x), l1] st M Q ↔ jx_Ev d 34 8 [some (.ref x), l1] (.ref x :: st) M Q) ∧
  (∀ (d : Nat) (lv : List (Option Value)) (st : List Value) (M : jx_M) (Q : jx_Po), jx_Ev d 34 8 lv st M Q ↔ jx_Ev d 34 10 lv (.int 44 :: st) M Q) ∧
  (∀ (d : Nat) (lv : List (Option Value)) (M : jx_M) (Q : jx_Po) (a0 : Int32), jx_Ev (d + 1) 34 10 lv [.int a0, .ref 2] M Q ↔ jx_I d 41 [.ref 2, .int a0] M (fun x M => jx_Ev (d + 1) 34 13 lv (.int x :: []) M Q)) ∧
  (∀ (d : Nat) (lv : List (Option Value)) (st : List Value) (M : jx_M) (Q : jx_Po) (x : Int32), jx_Ev d 34 13 lv (.int x :: st) M Q ↔ (if x = 0 then jx_Ev d 34 42 lv st M Q else jx_Ev d 34 16 lv st M Q)) ∧
  (∀ (d : Nat) (st : List Value) (M : jx_M) (Q : jx_Po) (l1 : Option Value) (x : Nat), jx_Ev d 34 16 [some (.ref x), l1] st M Q ↔ jx_Ev d 34 17 [some (.ref x), l1] (.ref x :: st) M Q) ∧
  (∀ (d : Nat) (st : List Value) (M : jx_M) (Q : jx_Po) (l0 : Option Value) (x : Int32), jx_Ev d 34 17 [l0, some (.int x)] st M Q ↔ jx_Ev d 34 18 [l0, some (.int x)] (.int x :: st) M Q) ∧
  (∀ (d : Nat) (lv : List (Option Value)) (M : jx_M) (Q : jx_Po) (a0 : Int32), jx_Ev (d + 1) 34 18 lv [.int a0, .ref 2] M Q ↔ jx_I d 35 [.ref 2, .int a0] M (fun x M => jx_Ev (d + 1) 34 21 lv (.int x :: []) M Q)) ∧
  (∀ (d : Nat) (lv : List (Option Value)) (st : List Value) (M : jx_M) (Q : jx_Po) (x : Int32), jx_Ev d 34 21 lv (.int x :: st) M Q ↔ (if x = 0 then jx_Ev d 34 24 lv st M Q else jx_Ev d 34 26 lv st M Q)) ∧
  (∀ (d : Nat) (lv : List (Option Value)) (st : List Value) (M : jx_M) (Q : jx_Po), jx_Ev d 34 24 lv st M Q ↔ jx_Ev d 34 25 lv (.int 0 :: st) M Q) ∧
  (∀ (d : Nat) (lv : List (Option Value)) (M : jx_M) (Q : jx_Po) (x : Int32), jx_Ev d 34 25 lv [.int x] M Q ↔ ((x = 0 ∨ x = 1) ∧ Q [.int x] M)) ∧
  (∀ (d : Nat) (st : List Value) (M : jx_M) (Q : jx_Po) (l1 : Option Value) (x : Nat), jx_Ev d 34 26 [some (.ref x), l1] st M Q ↔ jx_Ev d 34 27 [some (.ref x), l1] (.ref x :: st) M Q) ∧
  (∀ (d : Nat) (lv : List (Option Value)) (st : List Value) (M : jx_M) (Q : jx_Po), jx_Ev d 34 27 lv (.ref 2 :: st) M Q ↔ jx_Ev d 34 30 lv (jx_rv (M 2 1) :: st) M Q) ∧
  (∀ (d : Nat) (st : List Value) (M : jx_M) (Q : jx_Po) (l0 : Option Value) (x : Int32), jx_Ev d 34 30 [l0, some (.int x)] st M Q ↔ jx_Ev d 34 31 [l0, some (.int x)] (.int x :: st) M Q) ∧
  (∀ (d : Nat) (lv : List (Option Value)) (st : List Value) (M : jx_M) (Q : jx_Po), jx_Ev d 34 31 lv st M Q ↔ jx_Ev d 34 32 lv (.int 1 :: st) M Q) ∧
  (∀ (d : Nat) (lv : List (Option Value)) (st : List Value) (M : jx_M) (Q : jx_Po) (x z : Int32), jx_Ev d 34 32 lv (.int z :: .int x :: st) M Q ↔ jx_Ev d 34 33 lv (.int (x + z) :: st) M Q) ∧
  (∀ (d : Nat) (lv : List (Option Value)) (st : List Value) (M : jx_M) (Q : jx_Po) (x : Int32) (k : Nat) (hk : jx_cl k = 1), jx_Ev d 34 33 lv (.int x :: .ref k :: st) M Q ↔ jx_Ev d 34 36 lv st (jx_up M k 5 x) Q) ∧
  (∀ (d : Nat) (st : List Value) (M : jx_M) (Q : jx_Po) (l0 : Option Value) (x : Int32), jx_Ev d 34 36 [l0, some (.int x)] st M Q ↔ jx_Ev d 34 39 [l0, some (.int (x + 1))] st M Q) ∧
  (∀ (d : Nat) (lv : List (Option Value)) (st : List Value) (M : jx_M) (Q : jx_Po), jx_Ev d 34 39 lv st M Q ↔ jx_Ev d 34 2 lv st M Q) ∧
  (∀ (d : Nat) (st : List Value) (M : jx_M) (Q : jx_Po) (l1 : Option Value) (x : Nat), jx_Ev d 34 42 [some (.ref x), l1] st M Q ↔ jx_Ev d 34 43 [some (.ref x), l1] (.ref x :: st) M Q) ∧
  (∀ (d : Nat) (lv : List (Option Value)) (st : List Value) (M : jx_M) (Q : jx_Po), jx_Ev d 34 43 lv (.ref 2 :: st) M Q ↔ jx_Ev d 34 46 lv (jx_rv (M 2 1) :: st) M Q) ∧
  (∀ (d : Nat) (lv : List (Option Value)) (st : List Value) (M : jx_M) (Q : jx_Po) (k : Nat) (hk : jx_cl k = 1), jx_Ev d 34 46 lv (.ref k :: st) M Q ↔ jx_Ev d 34 49 lv (.int (M k 5) :: st) M Q) ∧
  (∀ (d : Nat) (lv : List (Option Value)) (st : List Value) (M : jx_M) (Q : jx_Po) (x : Int32), jx_Ev d 34 49 lv (.int x :: st) M Q ↔ (if x ≤ 0 then jx_Ev d 34 56 lv st M Q else jx_Ev d 34 52 lv st M Q)) ∧
  (∀ (d : Nat) (lv : List (Option Value)) (st : List Value) (M : jx_M) (Q : jx_Po), jx_Ev d 34 52 lv st M Q ↔ jx_Ev d 34 53 lv (.int 1 :: st) M Q) ∧
  (∀ (d : Nat) (lv : List (Option Value)) (st : List Value) (M : jx_M) (Q : jx_Po), jx_Ev d 34 53 lv st M Q ↔ jx_Ev d 34 57 lv st M Q) ∧
  (∀ (d : Nat) (lv : List (Option Value)) (st : List Value) (M : jx_M) (Q : jx_Po), jx_Ev d 34 56 lv st M Q ↔ jx_Ev d 34 57 lv (.int 0 :: st) M Q) ∧
  (∀ (d : Nat) (lv : List (Option Value)) (M : jx_M) (Q : jx_Po) (x : Int32), jx_Ev d 34 57 lv [.int x] M Q ↔ ((x = 0 ∨ x = 1) ∧ Q [.int x] M)) := by
  refine ⟨?_, ?_, ?_, ?_, ?_, ?_, ?_, ?_, ?_, ?_, ?_, ?_, ?_, ?_, ?_, ?_, ?_, ?_, ?_, ?_, ?_, ?_, ?_, ?_, ?_, ?_, ?_, ?_, ?_, ?_⟩
  · exact fun d lv st M Q => jx_ev_st (jx_fok (by decide +kernel : decode (jx_mb 34) 0 = .ok (.iconst 0, 1))) rfl rfl rfl
  · exact fun d st M Q l0 l1 x => jx_ev_st (jx_fok (by decide +kernel : decode (jx_mb 34) 1 = .ok (.istore_n 1, 1))) rfl rfl rfl
  · exact fun d lv st M Q => jx_ev_st (jx_fok (by decide +kernel : decode (jx_mb 34) 3 = .ok (.iconst 5, 1))) rfl rfl rfl
  · exact fun d lv st M Q x z => jx_k_b2 (jx_fok (by decide +kernel : decode (jx_mb 34) 4 = .ok (.if_icmp .ge 38, 3))) rfl jx_hGe
  · exact fun d st M Q l1 x => jx_ev_st (jx_fok (by decide +kernel : decode (jx_mb 34) 7 = .ok (.aload_n 0, 1))) rfl rfl rfl
  · exact fun d lv st M Q => jx_ev_st (jx_fok (by decide +kernel : decode (jx_mb 34) 8 = .ok (.bipush 44, 2))) rfl rfl rfl
  · exact fun d lv M Q a0 => jx_ev_ci (jx_fok (by decide +kernel : decode (jx_mb 34) 10 = .ok (.invokevirtual 47, 3))) rfl (jx_ccV (As := [.int a0]) (rest := []) rfl rfl rfl rfl rfl rfl) (by decide)
  · exact fun d lv st M Q x => jx_k_b1 (jx_fok (by decide +kernel : decode (jx_mb 34) 13 = .ok (.ifCond .eq 29, 3))) rfl jx_hEq
  · exact fun d st M Q l1 x => jx_ev_st (jx_fok (by decide +kernel : decode (jx_mb 34) 16 = .ok (.aload_n 0, 1))) rfl rfl rfl
  · exact fun d st M Q l0 x => jx_ev_st (jx_fok (by decide +kernel : decode (jx_mb 34) 17 = .ok (.iload_n 1, 1))) rfl rfl rfl
  · exact fun d lv M Q a0 => jx_ev_ci (jx_fok (by decide +kernel : decode (jx_mb 34) 18 = .ok (.invokevirtual 61, 3))) rfl (jx_ccV (As := [.int a0]) (rest := []) rfl rfl rfl rfl rfl rfl) (by decide)
  · exact fun d lv st M Q x => jx_k_b1n (jx_fok (by decide +kernel : decode (jx_mb 34) 21 = .ok (.ifCond .ne 5, 3))) rfl jx_hNe
  · exact fun d lv st M Q => jx_ev_st (jx_fok (by decide +kernel : decode (jx_mb 34) 24 = .ok (.iconst 0, 1))) rfl rfl rfl
  · exact fun d lv M Q x => jx_k_rz (jx_fok (by decide +kernel : decode (jx_mb 34) 25 = .ok (.ireturn, 1))) rfl
  · exact fun d st M Q l1 x => jx_ev_st (jx_fok (by decide +kernel : decode (jx_mb 34) 26 = .ok (.aload_n 0, 1))) rfl rfl rfl
  · exact fun d lv st M Q => jx_k_gf (jx_fok (by decide +kernel : decode (jx_mb 34) 27 = .ok (.getfield 15, 3))) rfl rfl rfl
  · exact fun d st M Q l0 x => jx_ev_st (jx_fok (by decide +kernel : decode (jx_mb 34) 30 = .ok (.iload_n 1, 1))) rfl rfl rfl
  · exact fun d lv st M Q => jx_ev_st (jx_fok (by decide +kernel : decode (jx_mb 34) 31 = .ok (.iconst 1, 1))) rfl rfl rfl
  · exact fun d lv st M Q x z => jx_ev_st (jx_fok (by decide +kernel : decode (jx_mb 34) 32 = .ok (.iadd, 1))) rfl rfl rfl
  · exact fun d lv st M Q x k hk => jx_k_pf0 (jx_fok (by decide +kernel : decode (jx_mb 34) 33 = .ok (.putfield 29, 3))) rfl hk rfl
  · exact fun d st M Q l0 x => jx_ev_st (jx_fok (by decide +kernel : decode (jx_mb 34) 36 = .ok (.iinc 1 1, 3))) rfl rfl rfl
  · exact fun d lv st M Q => jx_k_goto (jx_fok (by decide +kernel : decode (jx_mb 34) 39 = .ok (.goto (-37), 3))) rfl
  · exact fun d st M Q l1 x => jx_ev_st (jx_fok (by decide +kernel : decode (jx_mb 34) 42 = .ok (.aload_n 0, 1))) rfl rfl rfl
  · exact fun d lv st M Q => jx_k_gf (jx_fok (by decide +kernel : decode (jx_mb 34) 43 = .ok (.getfield 15, 3))) rfl rfl rfl
  · exact fun d lv st M Q k hk => jx_k_gf (jx_fok (by decide +kernel : decode (jx_mb 34) 46 = .ok (.getfield 29, 3))) rfl hk rfl
  · exact fun d lv st M Q x => jx_k_b1 (jx_fok (by decide +kernel : decode (jx_mb 34) 49 = .ok (.ifCond .le 7, 3))) rfl jx_hLe
  · exact fun d lv st M Q => jx_ev_st (jx_fok (by decide +kernel : decode (jx_mb 34) 52 = .ok (.iconst 1, 1))) rfl rfl rfl
  · exact fun d lv st M Q => jx_k_goto (jx_fok (by decide +kernel : decode (jx_mb 34) 53 = .ok (.goto 4, 3))) rfl
  · exact fun d lv st M Q => jx_ev_st (jx_fok (by decide +kernel : decode (jx_mb 34) 56 = .ok (.iconst 0, 1))) rfl rfl rfl
  · exact fun d lv M Q x => jx_k_rz (jx_fok (by decide +kernel : decode (jx_mb 34) 57 = .ok (.ireturn, 1))) rfl
theorem eX6_readsPeople_2 (d : Nat) (st : List Value) (M : jx_M) (Q : jx_Po) (l0 : Option Value) (x : Int32) : jx_Ev d 34 2 [l0, some (.int x)] st M Q ↔ jx_Ev d 34 3 [l0, some (.int x)] (.int x :: st) M Q := jx_ev_st (jx_fok (by decide +kernel : decode (jx_mb 34) 2 = .ok (.iload_n 1, 1))) rfl rfl rfl
theorem kX6_readsPeople (d : Nat) (M : jx_M) (q : Int32 → jx_M → Prop) (a0 : Value) : jx_I d 34 [a0] M q ↔ jx_Ev d 34 0 [some a0, none] [] M (jx_qI q) := Iff.rfl
set_option maxRecDepth 100000 in
theorem eX6_readsPerson :
  (∀ (d : Nat) (st : List Value) (M : jx_M) (Q : jx_Po) (l1 : Option Value) (x : Nat), jx_Ev d 35 0 [some (.ref x), l1] st M Q ↔ jx_Ev d 35 1 [some (.ref x), l1] (.ref x :: st) M Q) ∧
  (∀ (d : Nat) (lv : List (Option Value)) (st : List Value) (M : jx_M) (Q : jx_Po), jx_Ev d 35 1 lv (.ref 2 :: st) M Q ↔ jx_Ev d 35 4 lv (jx_rv (M 2 1) :: st) M Q) ∧
  (∀ (d : Nat) (lv : List (Option Value)) (st : List Value) (M : jx_M) (Q : jx_Po) (k : Nat) (hk : jx_cl k = 1), jx_Ev d 35 4 lv (.ref k :: st) M Q ↔ jx_Ev d 35 7 lv (.ref (k + 1) :: st) M Q) ∧
  (∀ (d : Nat) (st : List Value) (M : jx_M) (Q : jx_Po) (l0 : Option Value) (x : Int32), jx_Ev d 35 7 [l0, some (.int x)] st M Q ↔ jx_Ev d 35 8 [l0, some (.int x)] (.int x :: st) M Q) ∧
  (∀ (d : Nat) (st : List Value) (M : jx_M) (Q : jx_Po) (l1 : Option Value) (x : Nat), jx_Ev d 35 8 [some (.ref x), l1] st M Q ↔ jx_Ev d 35 9 [some (.ref x), l1] (.ref x :: st) M Q) ∧
  (∀ (d : Nat) (lv : List (Option Value)) (st : List Value) (M : jx_M) (Q : jx_Po), jx_Ev d 35 9 lv st M Q ↔ jx_Ev d 35 10 lv (.int 0 :: st) M Q) ∧
  (∀ (d : Nat) (lv : List (Option Value)) (st : List Value) (M : jx_M) (Q : jx_Po), jx_Ev d 35 10 lv st M Q ↔ jx_Ev d 35 12 lv (.int 9 :: st) M Q) ∧
  (∀ (d : Nat) (lv : List (Option Value)) (M : jx_M) (Q : jx_Po) (a0 : Int32) (a1 : Int32) (a3 : Int32) (a4 : Nat), jx_Ev (d + 1) 35 12 lv [.int a0, .int a1, .ref 2, .int a3, .ref a4] M Q ↔ jx_I d 40 [.ref 2, .int a1, .int a0] M (fun x M => jx_Ev (d + 1) 35 15 lv (.int x :: [.int a3, .ref a4]) M Q)) ∧
  (∀ (d : Nat) (lv : List (Option Value)) (st : List Value) (M : jx_M) (Q : jx_Po) (x z : Int32) (a : Nat) (ha : jx_cl a = 9), jx_Ev d 35 15 lv (.int z :: .int x :: .ref a :: st) M Q ↔ (vp_in x (jx_sz a) ∧ jx_Ev d 35 16 lv st (jx_up M a x.toNatClampNeg z) Q)) ∧
  (∀ (d : Nat) (st : List Value) (M : jx_M) (Q : jx_Po) (l1 : Option Value) (x : Nat), jx_Ev d 35 16 [some (.ref x), l1] st M Q ↔ jx_Ev d 35 17 [some (.ref x), l1] (.ref x :: st) M Q) ∧
  (∀ (d : Nat) (lv : List (Option Value)) (st : List Value) (M : jx_M) (Q : jx_Po), jx_Ev d 35 17 lv (.ref 2 :: st) M Q ↔ jx_Ev d 35 20 lv (jx_rv (M 2 1) :: st) M Q) ∧
  (∀ (d : Nat) (lv : List (Option Value)) (st : List Value) (M : jx_M) (Q : jx_Po) (k : Nat) (hk : jx_cl k = 1), jx_Ev d 35 20 lv (.ref k :: st) M Q ↔ jx_Ev d 35 23 lv (.ref (k + 1) :: st) M Q) ∧
  (∀ (d : Nat) (st : List Value) (M : jx_M) (Q : jx_Po) (l0 : Option Value) (x : Int32), jx_Ev d 35 23 [l0, some (.int x)] st M Q ↔ jx_Ev d 35 24 [l0, some (.int x)] (.int x :: st) M Q) ∧
  (∀ (d : Nat) (lv : List (Option Value)) (st : List Value) (M : jx_M) (Q : jx_Po) (x : Int32) (a : Nat) (ha : jx_cl a = 9), jx_Ev d 35 24 lv (.int x :: .ref a :: st) M Q ↔ (vp_in x (jx_sz a) ∧ jx_Ev d 35 25 lv (.int (M a x.toNatClampNeg) :: st) M Q)) ∧
  (∀ (d : Nat) (lv : List (Option Value)) (st : List Value) (M : jx_M) (Q : jx_Po) (x : Int32), jx_Ev d 35 25 lv (.int x :: st) M Q ↔ (if 0 ≤ x then jx_Ev d 35 30 lv st M Q else jx_Ev d 35 28 lv st M Q)) ∧
  (∀ (d : Nat) (lv : List (Option Value)) (st : List Value) (M : jx_M) (Q : jx_Po), jx_Ev d 35 28 lv st M Q ↔ jx_Ev d 35 29 lv (.int 0 :: st) M Q) ∧
  (∀ (d : Nat) (lv : List (Option Value)) (M : jx_M) (Q : jx_Po) (x : Int32), jx_Ev d 35 29 lv [.int x] M Q ↔ ((x = 0 ∨ x = 1) ∧ Q [.int x] M)) ∧
  (∀ (d : Nat) (st : List Value) (M : jx_M) (Q : jx_Po) (l1 : Option Value) (x : Nat), jx_Ev d 35 30 [some (.ref x), l1] st M Q ↔ jx_Ev d 35 31 [some (.ref x), l1] (.ref x :: st) M Q) ∧
  (∀ (d : Nat) (lv : List (Option Value)) (st : List Value) (M : jx_M) (Q : jx_Po), jx_Ev d 35 31 lv (.ref 2 :: st) M Q ↔ jx_Ev d 35 34 lv (jx_rv (M 2 1) :: st) M Q) ∧
  (∀ (d : Nat) (lv : List (Option Value)) (st : List Value) (M : jx_M) (Q : jx_Po) (k : Nat) (hk : jx_cl k = 1), jx_Ev d 35 34 lv (.ref k :: st) M Q ↔ jx_Ev d 35 37 lv (.ref (k + 2) :: st) M Q) ∧
  (∀ (d : Nat) (st : List Value) (M : jx_M) (Q : jx_Po) (l0 : Option Value) (x : Int32), jx_Ev d 35 37 [l0, some (.int x)] st M Q ↔ jx_Ev d 35 38 [l0, some (.int x)] (.int x :: st) M Q) ∧
  (∀ (d : Nat) (st : List Value) (M : jx_M) (Q : jx_Po) (l1 : Option Value) (x : Nat), jx_Ev d 35 38 [some (.ref x), l1] st M Q ↔ jx_Ev d 35 39 [some (.ref x), l1] (.ref x :: st) M Q) ∧
  (∀ (d : Nat) (lv : List (Option Value)) (st : List Value) (M : jx_M) (Q : jx_Po), jx_Ev d 35 39 lv st M Q ↔ jx_Ev d 35 40 lv (.int 0 :: st) M Q) ∧
  (∀ (d : Nat) (lv : List (Option Value)) (st : List Value) (M : jx_M) (Q : jx_Po), jx_Ev d 35 40 lv st M Q ↔ jx_Ev d 35 41 lv (.int 5 :: st) M Q) ∧
  (∀ (d : Nat) (lv : List (Option Value)) (M : jx_M) (Q : jx_Po) (a0 : Int32) (a1 : Int32) (a3 : Int32) (a4 : Nat), jx_Ev (d + 1) 35 41 lv [.int a0, .int a1, .ref 2, .int a3, .ref a4] M Q ↔ jx_I d 40 [.ref 2, .int a1, .int a0] M (fun x M => jx_Ev (d + 1) 35 44 lv (.int x :: [.int a3, .ref a4]) M Q)) ∧
  (∀ (d : Nat) (lv : List (Option Value)) (st : List Value) (M : jx_M) (Q : jx_Po) (x z : Int32) (a : Nat) (ha : jx_cl a = 9), jx_Ev d 35 44 lv (.int z :: .int x :: .ref a :: st) M Q ↔ (vp_in x (jx_sz a) ∧ jx_Ev d 35 45 lv st (jx_up M a x.toNatClampNeg z) Q)) ∧
  (∀ (d : Nat) (st : List Value) (M : jx_M) (Q : jx_Po) (l1 : Option Value) (x : Nat), jx_Ev d 35 45 [some (.ref x), l1] st M Q ↔ jx_Ev d 35 46 [some (.ref x), l1] (.ref x :: st) M Q) ∧
  (∀ (d : Nat) (lv : List (Option Value)) (st : List Value) (M : jx_M) (Q : jx_Po), jx_Ev d 35 46 lv (.ref 2 :: st) M Q ↔ jx_Ev d 35 49 lv (jx_rv (M 2 1) :: st) M Q) ∧
  (∀ (d : Nat) (lv : List (Option Value)) (st : List Value) (M : jx_M) (Q : jx_Po) (k : Nat) (hk : jx_cl k = 1), jx_Ev d 35 49 lv (.ref k :: st) M Q ↔ jx_Ev d 35 52 lv (.ref (k + 2) :: st) M Q) ∧
  (∀ (d : Nat) (st : List Value) (M : jx_M) (Q : jx_Po) (l0 : Option Value) (x : Int32), jx_Ev d 35 52 [l0, some (.int x)] st M Q ↔ jx_Ev d 35 53 [l0, some (.int x)] (.int x :: st) M Q) ∧
  (∀ (d : Nat) (lv : List (Option Value)) (st : List Value) (M : jx_M) (Q : jx_Po) (x : Int32) (a : Nat) (ha : jx_cl a = 9), jx_Ev d 35 53 lv (.int x :: .ref a :: st) M Q ↔ (vp_in x (jx_sz a) ∧ jx_Ev d 35 54 lv (.int (M a x.toNatClampNeg) :: st) M Q)) ∧
  (∀ (d : Nat) (lv : List (Option Value)) (st : List Value) (M : jx_M) (Q : jx_Po) (x : Int32), jx_Ev d 35 54 lv (.int x :: st) M Q ↔ (if x < 0 then jx_Ev d 35 61 lv st M Q else jx_Ev d 35 57 lv st M Q)) ∧
  (∀ (d : Nat) (lv : List (Option Value)) (st : List Value) (M : jx_M) (Q : jx_Po), jx_Ev d 35 57 lv st M Q ↔ jx_Ev d 35 58 lv (.int 1 :: st) M Q) ∧
  (∀ (d : Nat) (lv : List (Option Value)) (st : List Value) (M : jx_M) (Q : jx_Po), jx_Ev d 35 58 lv st M Q ↔ jx_Ev d 35 62 lv st M Q) ∧
  (∀ (d : Nat) (lv : List (Option Value)) (st : List Value) (M : jx_M) (Q : jx_Po), jx_Ev d 35 61 lv st M Q ↔ jx_Ev d 35 62 lv (.int 0 :: st) M Q) ∧
  (∀ (d : Nat) (lv : List (Option Value)) (M : jx_M) (Q : jx_Po) (x : Int32), jx_Ev d 35 62 lv [.int x] M Q ↔ ((x = 0 ∨ x = 1) ∧ Q [.int x] M)) := by
  refine ⟨?_, ?_, ?_, ?_, ?_, ?_, ?_, ?_, ?_, ?_, ?_, ?_, ?_, ?_, ?_, ?_, ?_, ?_, ?_, ?_, ?_, ?_, ?_, ?_, ?_, ?_, ?_, ?_, ?_, ?_, ?_, ?_, ?_, ?_, ?_, ?_⟩
  · exact fun d st M Q l1 x => jx_ev_st (jx_fok (by decide +kernel : decode (jx_mb 35) 0 = .ok (.aload_n 0, 1))) rfl rfl rfl
  · exact fun d lv st M Q => jx_k_gf (jx_fok (by decide +kernel : decode (jx_mb 35) 1 = .ok (.getfield 15, 3))) rfl rfl rfl
  · exact fun d lv st M Q k hk => jx_k_gf (jx_fok (by decide +kernel : decode (jx_mb 35) 4 = .ok (.getfield 64, 3))) rfl hk rfl
  · exact fun d st M Q l0 x => jx_ev_st (jx_fok (by decide +kernel : decode (jx_mb 35) 7 = .ok (.iload_n 1, 1))) rfl rfl rfl
  · exact fun d st M Q l1 x => jx_ev_st (jx_fok (by decide +kernel : decode (jx_mb 35) 8 = .ok (.aload_n 0, 1))) rfl rfl rfl
  · exact fun d lv st M Q => jx_ev_st (jx_fok (by decide +kernel : decode (jx_mb 35) 9 = .ok (.iconst 0, 1))) rfl rfl rfl
  · exact fun d lv st M Q => jx_ev_st (jx_fok (by decide +kernel : decode (jx_mb 35) 10 = .ok (.bipush 9, 2))) rfl rfl rfl
  · exact fun d lv M Q a0 a1 a3 a4 => jx_ev_ci (jx_fok (by decide +kernel : decode (jx_mb 35) 12 = .ok (.invokevirtual 51, 3))) rfl (jx_ccV (As := [.int a1, .int a0]) (rest := [.int a3, .ref a4]) rfl rfl rfl rfl rfl rfl) (by decide)
  · exact fun d lv st M Q x z a ha => jx_k_as (jx_fok (by decide +kernel : decode (jx_mb 35) 15 = .ok (.iastore, 1))) ha
  · exact fun d st M Q l1 x => jx_ev_st (jx_fok (by decide +kernel : decode (jx_mb 35) 16 = .ok (.aload_n 0, 1))) rfl rfl rfl
  · exact fun d lv st M Q => jx_k_gf (jx_fok (by decide +kernel : decode (jx_mb 35) 17 = .ok (.getfield 15, 3))) rfl rfl rfl
  · exact fun d lv st M Q k hk => jx_k_gf (jx_fok (by decide +kernel : decode (jx_mb 35) 20 = .ok (.getfield 64, 3))) rfl hk rfl
  · exact fun d st M Q l0 x => jx_ev_st (jx_fok (by decide +kernel : decode (jx_mb 35) 23 = .ok (.iload_n 1, 1))) rfl rfl rfl
  · exact fun d lv st M Q x a ha => jx_k_al (jx_fok (by decide +kernel : decode (jx_mb 35) 24 = .ok (.iaload, 1))) ha
  · exact fun d lv st M Q x => jx_k_b1 (jx_fok (by decide +kernel : decode (jx_mb 35) 25 = .ok (.ifCond .ge 5, 3))) rfl jx_hGe
  · exact fun d lv st M Q => jx_ev_st (jx_fok (by decide +kernel : decode (jx_mb 35) 28 = .ok (.iconst 0, 1))) rfl rfl rfl
  · exact fun d lv M Q x => jx_k_rz (jx_fok (by decide +kernel : decode (jx_mb 35) 29 = .ok (.ireturn, 1))) rfl
  · exact fun d st M Q l1 x => jx_ev_st (jx_fok (by decide +kernel : decode (jx_mb 35) 30 = .ok (.aload_n 0, 1))) rfl rfl rfl
  · exact fun d lv st M Q => jx_k_gf (jx_fok (by decide +kernel : decode (jx_mb 35) 31 = .ok (.getfield 15, 3))) rfl rfl rfl
  · exact fun d lv st M Q k hk => jx_k_gf (jx_fok (by decide +kernel : decode (jx_mb 35) 34 = .ok (.getfield 68, 3))) rfl hk rfl
  · exact fun d st M Q l0 x => jx_ev_st (jx_fok (by decide +kernel : decode (jx_mb 35) 37 = .ok (.iload_n 1, 1))) rfl rfl rfl
  · exact fun d st M Q l1 x => jx_ev_st (jx_fok (by decide +kernel : decode (jx_mb 35) 38 = .ok (.aload_n 0, 1))) rfl rfl rfl
  · exact fun d lv st M Q => jx_ev_st (jx_fok (by decide +kernel : decode (jx_mb 35) 39 = .ok (.iconst 0, 1))) rfl rfl rfl
  · exact fun d lv st M Q => jx_ev_st (jx_fok (by decide +kernel : decode (jx_mb 35) 40 = .ok (.iconst 5, 1))) rfl rfl rfl
  · exact fun d lv M Q a0 a1 a3 a4 => jx_ev_ci (jx_fok (by decide +kernel : decode (jx_mb 35) 41 = .ok (.invokevirtual 51, 3))) rfl (jx_ccV (As := [.int a1, .int a0]) (rest := [.int a3, .ref a4]) rfl rfl rfl rfl rfl rfl) (by decide)
  · exact fun d lv st M Q x z a ha => jx_k_as (jx_fok (by decide +kernel : decode (jx_mb 35) 44 = .ok (.iastore, 1))) ha
  · exact fun d st M Q l1 x => jx_ev_st (jx_fok (by decide +kernel : decode (jx_mb 35) 45 = .ok (.aload_n 0, 1))) rfl rfl rfl
  · exact fun d lv st M Q => jx_k_gf (jx_fok (by decide +kernel : decode (jx_mb 35) 46 = .ok (.getfield 15, 3))) rfl rfl rfl
  · exact fun d lv st M Q k hk => jx_k_gf (jx_fok (by decide +kernel : decode (jx_mb 35) 49 = .ok (.getfield 68, 3))) rfl hk rfl
  · exact fun d st M Q l0 x => jx_ev_st (jx_fok (by decide +kernel : decode (jx_mb 35) 52 = .ok (.iload_n 1, 1))) rfl rfl rfl
  · exact fun d lv st M Q x a ha => jx_k_al (jx_fok (by decide +kernel : decode (jx_mb 35) 53 = .ok (.iaload, 1))) ha
  · exact fun d lv st M Q x => jx_k_b1 (jx_fok (by decide +kernel : decode (jx_mb 35) 54 = .ok (.ifCond .lt 7, 3))) rfl jx_hLt
  · exact fun d lv st M Q => jx_ev_st (jx_fok (by decide +kernel : decode (jx_mb 35) 57 = .ok (.iconst 1, 1))) rfl rfl rfl
  · exact fun d lv st M Q => jx_k_goto (jx_fok (by decide +kernel : decode (jx_mb 35) 58 = .ok (.goto 4, 3))) rfl
  · exact fun d lv st M Q => jx_ev_st (jx_fok (by decide +kernel : decode (jx_mb 35) 61 = .ok (.iconst 0, 1))) rfl rfl rfl
  · exact fun d lv M Q x => jx_k_rz (jx_fok (by decide +kernel : decode (jx_mb 35) 62 = .ok (.ireturn, 1))) rfl
theorem kX6_readsPerson (d : Nat) (M : jx_M) (q : Int32 → jx_M → Prop) (a0 a1 : Value) : jx_I d 35 [a0, a1] M q ↔ jx_Ev d 35 0 [some a0, some a1] [] M (jx_qI q) := Iff.rfl
set_option maxRecDepth 100000 in
theorem eX6_readsClaps :
  (∀ (d : Nat) (lv : List (Option Value)) (st : List Value) (M : jx_M) (Q : jx_Po), jx_Ev d 36 0 lv st M Q ↔ jx_Ev d 36 1 lv (.int 0 :: st) M Q) ∧
  (∀ (d : Nat) (st : List Value) (M : jx_M) (Q : jx_Po) (l0 l1 : Option Value) (x : Int32), jx_Ev d 36 1 [l0, l1] (.int x :: st) M Q ↔ jx_Ev d 36 2 [l0, some (.int x)] st M Q) ∧
  (∀ (d : Nat) (lv : List (Option Value)) (st : List Value) (M : jx_M) (Q : jx_Po), jx_Ev d 36 3 lv st M Q ↔ jx_Ev d 36 5 lv (.int 6 :: st) M Q) ∧
  (∀ (d : Nat) (lv : List (Option Value)) (st : List Value) (M : jx_M) (Q : jx_Po) (x z : Int32), jx_Ev d 36 5 lv (.int z :: .int x :: st) M Q ↔ (if z ≤ x then jx_Ev d 36 43 lv st M Q else jx_Ev d 36 8 lv st M Q)) ∧
  (∀ (d : Nat) (st : List Value) (M : jx_M) (Q : jx_Po) (l1 : Option Value) (x : Nat), jx_Ev d 36 8 [some (.ref x), l1] st M Q ↔ jx_Ev d 36 9 [some (.ref x), l1] (.ref x :: st) M Q) ∧
  (∀ (d : Nat) (lv : List (Option Value)) (st : List Value) (M : jx_M) (Q : jx_Po), jx_Ev d 36 9 lv st M Q ↔ jx_Ev d 36 11 lv (.int 59 :: st) M Q) ∧
  (∀ (d : Nat) (lv : List (Option Value)) (M : jx_M) (Q : jx_Po) (a0 : Int32), jx_Ev (d + 1) 36 11 lv [.int a0, .ref 2] M Q ↔ jx_I d 41 [.ref 2, .int a0] M (fun x M => jx_Ev (d + 1) 36 14 lv (.int x :: []) M Q)) ∧
  (∀ (d : Nat) (lv : List (Option Value)) (st : List Value) (M : jx_M) (Q : jx_Po) (x : Int32), jx_Ev d 36 14 lv (.int x :: st) M Q ↔ (if x = 0 then jx_Ev d 36 43 lv st M Q else jx_Ev d 36 17 lv st M Q)) ∧
  (∀ (d : Nat) (st : List Value) (M : jx_M) (Q : jx_Po) (l1 : Option Value) (x : Nat), jx_Ev d 36 17 [some (.ref x), l1] st M Q ↔ jx_Ev d 36 18 [some (.ref x), l1] (.ref x :: st) M Q) ∧
  (∀ (d : Nat) (st : List Value) (M : jx_M) (Q : jx_Po) (l0 : Option Value) (x : Int32), jx_Ev d 36 18 [l0, some (.int x)] st M Q ↔ jx_Ev d 36 19 [l0, some (.int x)] (.int x :: st) M Q) ∧
  (∀ (d : Nat) (lv : List (Option Value)) (M : jx_M) (Q : jx_Po) (a0 : Int32), jx_Ev (d + 1) 36 19 lv [.int a0, .ref 2] M Q ↔ jx_I d 37 [.ref 2, .int a0] M (fun x M => jx_Ev (d + 1) 36 22 lv (.int x :: []) M Q)) ∧
  (∀ (d : Nat) (lv : List (Option Value)) (st : List Value) (M : jx_M) (Q : jx_Po) (x : Int32), jx_Ev d 36 22 lv (.int x :: st) M Q ↔ (if x = 0 then jx_Ev d 36 25 lv st M Q else jx_Ev d 36 27 lv st M Q)) ∧
  (∀ (d : Nat) (lv : List (Option Value)) (st : List Value) (M : jx_M) (Q : jx_Po), jx_Ev d 36 25 lv st M Q ↔ jx_Ev d 36 26 lv (.int 0 :: st) M Q) ∧
  (∀ (d : Nat) (lv : List (Option Value)) (M : jx_M) (Q : jx_Po) (x : Int32), jx_Ev d 36 26 lv [.int x] M Q ↔ ((x = 0 ∨ x = 1) ∧ Q [.int x] M)) ∧
  (∀ (d : Nat) (st : List Value) (M : jx_M) (Q : jx_Po) (l1 : Option Value) (x : Nat), jx_Ev d 36 27 [some (.ref x), l1] st M Q ↔ jx_Ev d 36 28 [some (.ref x), l1] (.ref x :: st) M Q) ∧
  (∀ (d : Nat) (lv : List (Option Value)) (st : List Value) (M : jx_M) (Q : jx_Po), jx_Ev d 36 28 lv (.ref 2 :: st) M Q ↔ jx_Ev d 36 31 lv (jx_rv (M 2 1) :: st) M Q) ∧
  (∀ (d : Nat) (st : List Value) (M : jx_M) (Q : jx_Po) (l0 : Option Value) (x : Int32), jx_Ev d 36 31 [l0, some (.int x)] st M Q ↔ jx_Ev d 36 32 [l0, some (.int x)] (.int x :: st) M Q) ∧
  (∀ (d : Nat) (lv : List (Option Value)) (st : List Value) (M : jx_M) (Q : jx_Po), jx_Ev d 36 32 lv st M Q ↔ jx_Ev d 36 33 lv (.int 1 :: st) M Q) ∧
  (∀ (d : Nat) (lv : List (Option Value)) (st : List Value) (M : jx_M) (Q : jx_Po) (x z : Int32), jx_Ev d 36 33 lv (.int z :: .int x :: st) M Q ↔ jx_Ev d 36 34 lv (.int (x + z) :: st) M Q) ∧
  (∀ (d : Nat) (lv : List (Option Value)) (st : List Value) (M : jx_M) (Q : jx_Po) (x : Int32) (k : Nat) (hk : jx_cl k = 1), jx_Ev d 36 34 lv (.int x :: .ref k :: st) M Q ↔ jx_Ev d 36 37 lv st (jx_up M k 6 x) Q) ∧
  (∀ (d : Nat) (st : List Value) (M : jx_M) (Q : jx_Po) (l0 : Option Value) (x : Int32), jx_Ev d 36 37 [l0, some (.int x)] st M Q ↔ jx_Ev d 36 40 [l0, some (.int (x + 1))] st M Q) ∧
  (∀ (d : Nat) (lv : List (Option Value)) (st : List Value) (M : jx_M) (Q : jx_Po), jx_Ev d 36 40 lv st M Q ↔ jx_Ev d 36 2 lv st M Q) ∧
  (∀ (d : Nat) (st : List Value) (M : jx_M) (Q : jx_Po) (l1 : Option Value) (x : Nat), jx_Ev d 36 43 [some (.ref x), l1] st M Q ↔ jx_Ev d 36 44 [some (.ref x), l1] (.ref x :: st) M Q) ∧
  (∀ (d : Nat) (lv : List (Option Value)) (st : List Value) (M : jx_M) (Q : jx_Po), jx_Ev d 36 44 lv (.ref 2 :: st) M Q ↔ jx_Ev d 36 47 lv (jx_rv (M 2 1) :: st) M Q) ∧
  (∀ (d : Nat) (lv : List (Option Value)) (st : List Value) (M : jx_M) (Q : jx_Po) (k : Nat) (hk : jx_cl k = 1), jx_Ev d 36 47 lv (.ref k :: st) M Q ↔ jx_Ev d 36 50 lv (.int (M k 6) :: st) M Q) ∧
  (∀ (d : Nat) (lv : List (Option Value)) (st : List Value) (M : jx_M) (Q : jx_Po) (x : Int32), jx_Ev d 36 50 lv (.int x :: st) M Q ↔ (if x ≤ 0 then jx_Ev d 36 57 lv st M Q else jx_Ev d 36 53 lv st M Q)) ∧
  (∀ (d : Nat) (lv : List (Option Value)) (st : List Value) (M : jx_M) (Q : jx_Po), jx_Ev d 36 53 lv st M Q ↔ jx_Ev d 36 54 lv (.int 1 :: st) M Q) ∧
  (∀ (d : Nat) (lv : List (Option Value)) (st : List Value) (M : jx_M) (Q : jx_Po), jx_Ev d 36 54 lv st M Q ↔ jx_Ev d 36 58 lv st M Q) ∧
  (∀ (d : Nat) (lv : List (Option Value)) (st : List Value) (M : jx_M) (Q : jx_Po), jx_Ev d 36 57 lv st M Q ↔ jx_Ev d 36 58 lv (.int 0 :: st) M Q) ∧
  (∀ (d : Nat) (lv : List (Option Value)) (M : jx_M) (Q : jx_Po) (x : Int32), jx_Ev d 36 58 lv [.int x] M Q ↔ ((x = 0 ∨ x = 1) ∧ Q [.int x] M)) := by
  refine ⟨?_, ?_, ?_, ?_, ?_, ?_, ?_, ?_, ?_, ?_, ?_, ?_, ?_, ?_, ?_, ?_, ?_, ?_, ?_, ?_, ?_, ?_, ?_, ?_, ?_, ?_, ?_, ?_, ?_, ?_⟩
  · exact fun d lv st M Q => jx_ev_st (jx_fok (by decide +kernel : decode (jx_mb 36) 0 = .ok (.iconst 0, 1))) rfl rfl rfl
  · exact fun d st M Q l0 l1 x => jx_ev_st (jx_fok (by decide +kernel : decode (jx_mb 36) 1 = .ok (.istore_n 1, 1))) rfl rfl rfl
  · exact fun d lv st M Q => jx_ev_st (jx_fok (by decide +kernel : decode (jx_mb 36) 3 = .ok (.bipush 6, 2))) rfl rfl rfl
  · exact fun d lv st M Q x z => jx_k_b2 (jx_fok (by decide +kernel : decode (jx_mb 36) 5 = .ok (.if_icmp .ge 38, 3))) rfl jx_hGe
  · exact fun d st M Q l1 x => jx_ev_st (jx_fok (by decide +kernel : decode (jx_mb 36) 8 = .ok (.aload_n 0, 1))) rfl rfl rfl
  · exact fun d lv st M Q => jx_ev_st (jx_fok (by decide +kernel : decode (jx_mb 36) 9 = .ok (.bipush 59, 2))) rfl rfl rfl
  · exact fun d lv M Q a0 => jx_ev_ci (jx_fok (by decide +kernel : decode (jx_mb 36) 11 = .ok (.invokevirtual 47, 3))) rfl (jx_ccV (As := [.int a0]) (rest := []) rfl rfl rfl rfl rfl rfl) (by decide)
  · exact fun d lv st M Q x => jx_k_b1 (jx_fok (by decide +kernel : decode (jx_mb 36) 14 = .ok (.ifCond .eq 29, 3))) rfl jx_hEq
  · exact fun d st M Q l1 x => jx_ev_st (jx_fok (by decide +kernel : decode (jx_mb 36) 17 = .ok (.aload_n 0, 1))) rfl rfl rfl
  · exact fun d st M Q l0 x => jx_ev_st (jx_fok (by decide +kernel : decode (jx_mb 36) 18 = .ok (.iload_n 1, 1))) rfl rfl rfl
  · exact fun d lv M Q a0 => jx_ev_ci (jx_fok (by decide +kernel : decode (jx_mb 36) 19 = .ok (.invokevirtual 71, 3))) rfl (jx_ccV (As := [.int a0]) (rest := []) rfl rfl rfl rfl rfl rfl) (by decide)
  · exact fun d lv st M Q x => jx_k_b1n (jx_fok (by decide +kernel : decode (jx_mb 36) 22 = .ok (.ifCond .ne 5, 3))) rfl jx_hNe
  · exact fun d lv st M Q => jx_ev_st (jx_fok (by decide +kernel : decode (jx_mb 36) 25 = .ok (.iconst 0, 1))) rfl rfl rfl
  · exact fun d lv M Q x => jx_k_rz (jx_fok (by decide +kernel : decode (jx_mb 36) 26 = .ok (.ireturn, 1))) rfl
  · exact fun d st M Q l1 x => jx_ev_st (jx_fok (by decide +kernel : decode (jx_mb 36) 27 = .ok (.aload_n 0, 1))) rfl rfl rfl
  · exact fun d lv st M Q => jx_k_gf (jx_fok (by decide +kernel : decode (jx_mb 36) 28 = .ok (.getfield 15, 3))) rfl rfl rfl
  · exact fun d st M Q l0 x => jx_ev_st (jx_fok (by decide +kernel : decode (jx_mb 36) 31 = .ok (.iload_n 1, 1))) rfl rfl rfl
  · exact fun d lv st M Q => jx_ev_st (jx_fok (by decide +kernel : decode (jx_mb 36) 32 = .ok (.iconst 1, 1))) rfl rfl rfl
  · exact fun d lv st M Q x z => jx_ev_st (jx_fok (by decide +kernel : decode (jx_mb 36) 33 = .ok (.iadd, 1))) rfl rfl rfl
  · exact fun d lv st M Q x k hk => jx_k_pf0 (jx_fok (by decide +kernel : decode (jx_mb 36) 34 = .ok (.putfield 34, 3))) rfl hk rfl
  · exact fun d st M Q l0 x => jx_ev_st (jx_fok (by decide +kernel : decode (jx_mb 36) 37 = .ok (.iinc 1 1, 3))) rfl rfl rfl
  · exact fun d lv st M Q => jx_k_goto (jx_fok (by decide +kernel : decode (jx_mb 36) 40 = .ok (.goto (-38), 3))) rfl
  · exact fun d st M Q l1 x => jx_ev_st (jx_fok (by decide +kernel : decode (jx_mb 36) 43 = .ok (.aload_n 0, 1))) rfl rfl rfl
  · exact fun d lv st M Q => jx_k_gf (jx_fok (by decide +kernel : decode (jx_mb 36) 44 = .ok (.getfield 15, 3))) rfl rfl rfl
  · exact fun d lv st M Q k hk => jx_k_gf (jx_fok (by decide +kernel : decode (jx_mb 36) 47 = .ok (.getfield 34, 3))) rfl hk rfl
  · exact fun d lv st M Q x => jx_k_b1 (jx_fok (by decide +kernel : decode (jx_mb 36) 50 = .ok (.ifCond .le 7, 3))) rfl jx_hLe
  · exact fun d lv st M Q => jx_ev_st (jx_fok (by decide +kernel : decode (jx_mb 36) 53 = .ok (.iconst 1, 1))) rfl rfl rfl
  · exact fun d lv st M Q => jx_k_goto (jx_fok (by decide +kernel : decode (jx_mb 36) 54 = .ok (.goto 4, 3))) rfl
  · exact fun d lv st M Q => jx_ev_st (jx_fok (by decide +kernel : decode (jx_mb 36) 57 = .ok (.iconst 0, 1))) rfl rfl rfl
  · exact fun d lv M Q x => jx_k_rz (jx_fok (by decide +kernel : decode (jx_mb 36) 58 = .ok (.ireturn, 1))) rfl
theorem eX6_readsClaps_2 (d : Nat) (st : List Value) (M : jx_M) (Q : jx_Po) (l0 : Option Value) (x : Int32) : jx_Ev d 36 2 [l0, some (.int x)] st M Q ↔ jx_Ev d 36 3 [l0, some (.int x)] (.int x :: st) M Q := jx_ev_st (jx_fok (by decide +kernel : decode (jx_mb 36) 2 = .ok (.iload_n 1, 1))) rfl rfl rfl
theorem kX6_readsClaps (d : Nat) (M : jx_M) (q : Int32 → jx_M → Prop) (a0 : Value) : jx_I d 36 [a0] M q ↔ jx_Ev d 36 0 [some a0, none] [] M (jx_qI q) := Iff.rfl
set_option maxRecDepth 100000 in
theorem eX6_readsClap :
  (∀ (d : Nat) (st : List Value) (M : jx_M) (Q : jx_Po) (l1 : Option Value) (x : Nat), jx_Ev d 37 0 [some (.ref x), l1] st M Q ↔ jx_Ev d 37 1 [some (.ref x), l1] (.ref x :: st) M Q) ∧
  (∀ (d : Nat) (lv : List (Option Value)) (st : List Value) (M : jx_M) (Q : jx_Po), jx_Ev d 37 1 lv (.ref 2 :: st) M Q ↔ jx_Ev d 37 4 lv (jx_rv (M 2 1) :: st) M Q) ∧
  (∀ (d : Nat) (lv : List (Option Value)) (st : List Value) (M : jx_M) (Q : jx_Po) (k : Nat) (hk : jx_cl k = 1), jx_Ev d 37 4 lv (.ref k :: st) M Q ↔ jx_Ev d 37 7 lv (.ref (k + 3) :: st) M Q) ∧
  (∀ (d : Nat) (st : List Value) (M : jx_M) (Q : jx_Po) (l0 : Option Value) (x : Int32), jx_Ev d 37 7 [l0, some (.int x)] st M Q ↔ jx_Ev d 37 8 [l0, some (.int x)] (.int x :: st) M Q) ∧
  (∀ (d : Nat) (st : List Value) (M : jx_M) (Q : jx_Po) (l1 : Option Value) (x : Nat), jx_Ev d 37 8 [some (.ref x), l1] st M Q ↔ jx_Ev d 37 9 [some (.ref x), l1] (.ref x :: st) M Q) ∧
  (∀ (d : Nat) (lv : List (Option Value)) (M : jx_M) (Q : jx_Po) (a1 : Int32) (a2 : Nat), jx_Ev (d + 1) 37 9 lv [.ref 2, .int a1, .ref a2] M Q ↔ jx_I d 38 [.ref 2] M (fun x M => jx_Ev (d + 1) 37 12 lv (.int x :: [.int a1, .ref a2]) M Q)) ∧
  (∀ (d : Nat) (lv : List (Option Value)) (st : List Value) (M : jx_M) (Q : jx_Po) (x z : Int32) (a : Nat) (ha : jx_cl a = 9), jx_Ev d 37 12 lv (.int z :: .int x :: .ref a :: st) M Q ↔ (vp_in x (jx_sz a) ∧ jx_Ev d 37 13 lv st (jx_up M a x.toNatClampNeg z) Q)) ∧
  (∀ (d : Nat) (st : List Value) (M : jx_M) (Q : jx_Po) (l1 : Option Value) (x : Nat), jx_Ev d 37 13 [some (.ref x), l1] st M Q ↔ jx_Ev d 37 14 [some (.ref x), l1] (.ref x :: st) M Q) ∧
  (∀ (d : Nat) (lv : List (Option Value)) (st : List Value) (M : jx_M) (Q : jx_Po), jx_Ev d 37 14 lv (.ref 2 :: st) M Q ↔ jx_Ev d 37 17 lv (jx_rv (M 2 1) :: st) M Q) ∧
  (∀ (d : Nat) (lv : List (Option Value)) (st : List Value) (M : jx_M) (Q : jx_Po) (k : Nat) (hk : jx_cl k = 1), jx_Ev d 37 17 lv (.ref k :: st) M Q ↔ jx_Ev d 37 20 lv (.ref (k + 3) :: st) M Q) ∧
  (∀ (d : Nat) (st : List Value) (M : jx_M) (Q : jx_Po) (l0 : Option Value) (x : Int32), jx_Ev d 37 20 [l0, some (.int x)] st M Q ↔ jx_Ev d 37 21 [l0, some (.int x)] (.int x :: st) M Q) ∧
  (∀ (d : Nat) (lv : List (Option Value)) (st : List Value) (M : jx_M) (Q : jx_Po) (x : Int32) (a : Nat) (ha : jx_cl a = 9), jx_Ev d 37 21 lv (.int x :: .ref a :: st) M Q ↔ (vp_in x (jx_sz a) ∧ jx_Ev d 37 22 lv (.int (M a x.toNatClampNeg) :: st) M Q)) ∧
  (∀ (d : Nat) (lv : List (Option Value)) (st : List Value) (M : jx_M) (Q : jx_Po) (x : Int32), jx_Ev d 37 22 lv (.int x :: st) M Q ↔ (if 0 ≤ x then jx_Ev d 37 27 lv st M Q else jx_Ev d 37 25 lv st M Q)) ∧
  (∀ (d : Nat) (lv : List (Option Value)) (st : List Value) (M : jx_M) (Q : jx_Po), jx_Ev d 37 25 lv st M Q ↔ jx_Ev d 37 26 lv (.int 0 :: st) M Q) ∧
  (∀ (d : Nat) (lv : List (Option Value)) (M : jx_M) (Q : jx_Po) (x : Int32), jx_Ev d 37 26 lv [.int x] M Q ↔ ((x = 0 ∨ x = 1) ∧ Q [.int x] M)) ∧
  (∀ (d : Nat) (st : List Value) (M : jx_M) (Q : jx_Po) (l1 : Option Value) (x : Nat), jx_Ev d 37 27 [some (.ref x), l1] st M Q ↔ jx_Ev d 37 28 [some (.ref x), l1] (.ref x :: st) M Q) ∧
  (∀ (d : Nat) (lv : List (Option Value)) (st : List Value) (M : jx_M) (Q : jx_Po), jx_Ev d 37 28 lv (.ref 2 :: st) M Q ↔ jx_Ev d 37 31 lv (jx_rv (M 2 1) :: st) M Q) ∧
  (∀ (d : Nat) (lv : List (Option Value)) (st : List Value) (M : jx_M) (Q : jx_Po) (k : Nat) (hk : jx_cl k = 1), jx_Ev d 37 31 lv (.ref k :: st) M Q ↔ jx_Ev d 37 34 lv (.ref (k + 4) :: st) M Q) ∧
  (∀ (d : Nat) (st : List Value) (M : jx_M) (Q : jx_Po) (l0 : Option Value) (x : Int32), jx_Ev d 37 34 [l0, some (.int x)] st M Q ↔ jx_Ev d 37 35 [l0, some (.int x)] (.int x :: st) M Q) ∧
  (∀ (d : Nat) (st : List Value) (M : jx_M) (Q : jx_Po) (l1 : Option Value) (x : Nat), jx_Ev d 37 35 [some (.ref x), l1] st M Q ↔ jx_Ev d 37 36 [some (.ref x), l1] (.ref x :: st) M Q) ∧
  (∀ (d : Nat) (lv : List (Option Value)) (st : List Value) (M : jx_M) (Q : jx_Po), jx_Ev d 37 36 lv st M Q ↔ jx_Ev d 37 37 lv (.int 1 :: st) M Q) ∧
  (∀ (d : Nat) (lv : List (Option Value)) (st : List Value) (M : jx_M) (Q : jx_Po), jx_Ev d 37 37 lv st M Q ↔ jx_Ev d 37 39 lv (.int 9 :: st) M Q) ∧
  (∀ (d : Nat) (lv : List (Option Value)) (M : jx_M) (Q : jx_Po) (a0 : Int32) (a1 : Int32) (a3 : Int32) (a4 : Nat), jx_Ev (d + 1) 37 39 lv [.int a0, .int a1, .ref 2, .int a3, .ref a4] M Q ↔ jx_I d 40 [.ref 2, .int a1, .int a0] M (fun x M => jx_Ev (d + 1) 37 42 lv (.int x :: [.int a3, .ref a4]) M Q)) ∧
  (∀ (d : Nat) (lv : List (Option Value)) (st : List Value) (M : jx_M) (Q : jx_Po) (x z : Int32) (a : Nat) (ha : jx_cl a = 9), jx_Ev d 37 42 lv (.int z :: .int x :: .ref a :: st) M Q ↔ (vp_in x (jx_sz a) ∧ jx_Ev d 37 43 lv st (jx_up M a x.toNatClampNeg z) Q)) ∧
  (∀ (d : Nat) (st : List Value) (M : jx_M) (Q : jx_Po) (l1 : Option Value) (x : Nat), jx_Ev d 37 43 [some (.ref x), l1] st M Q ↔ jx_Ev d 37 44 [some (.ref x), l1] (.ref x :: st) M Q) ∧
  (∀ (d : Nat) (lv : List (Option Value)) (st : List Value) (M : jx_M) (Q : jx_Po), jx_Ev d 37 44 lv (.ref 2 :: st) M Q ↔ jx_Ev d 37 47 lv (jx_rv (M 2 1) :: st) M Q) ∧
  (∀ (d : Nat) (lv : List (Option Value)) (st : List Value) (M : jx_M) (Q : jx_Po) (k : Nat) (hk : jx_cl k = 1), jx_Ev d 37 47 lv (.ref k :: st) M Q ↔ jx_Ev d 37 50 lv (.ref (k + 4) :: st) M Q) ∧
  (∀ (d : Nat) (st : List Value) (M : jx_M) (Q : jx_Po) (l0 : Option Value) (x : Int32), jx_Ev d 37 50 [l0, some (.int x)] st M Q ↔ jx_Ev d 37 51 [l0, some (.int x)] (.int x :: st) M Q) ∧
  (∀ (d : Nat) (lv : List (Option Value)) (st : List Value) (M : jx_M) (Q : jx_Po) (x : Int32) (a : Nat) (ha : jx_cl a = 9), jx_Ev d 37 51 lv (.int x :: .ref a :: st) M Q ↔ (vp_in x (jx_sz a) ∧ jx_Ev d 37 52 lv (.int (M a x.toNatClampNeg) :: st) M Q)) ∧
  (∀ (d : Nat) (lv : List (Option Value)) (st : List Value) (M : jx_M) (Q : jx_Po) (x : Int32), jx_Ev d 37 52 lv (.int x :: st) M Q ↔ (if 0 ≤ x then jx_Ev d 37 57 lv st M Q else jx_Ev d 37 55 lv st M Q)) ∧
  (∀ (d : Nat) (lv : List (Option Value)) (st : List Value) (M : jx_M) (Q : jx_Po), jx_Ev d 37 55 lv st M Q ↔ jx_Ev d 37 56 lv (.int 0 :: st) M Q) ∧
  (∀ (d : Nat) (lv : List (Option Value)) (M : jx_M) (Q : jx_Po) (x : Int32), jx_Ev d 37 56 lv [.int x] M Q ↔ ((x = 0 ∨ x = 1) ∧ Q [.int x] M)) ∧
  (∀ (d : Nat) (st : List Value) (M : jx_M) (Q : jx_Po) (l1 : Option Value) (x : Nat), jx_Ev d 37 57 [some (.ref x), l1] st M Q ↔ jx_Ev d 37 58 [some (.ref x), l1] (.ref x :: st) M Q) ∧
  (∀ (d : Nat) (lv : List (Option Value)) (st : List Value) (M : jx_M) (Q : jx_Po), jx_Ev d 37 58 lv (.ref 2 :: st) M Q ↔ jx_Ev d 37 61 lv (jx_rv (M 2 1) :: st) M Q) ∧
  (∀ (d : Nat) (lv : List (Option Value)) (st : List Value) (M : jx_M) (Q : jx_Po) (k : Nat) (hk : jx_cl k = 1), jx_Ev d 37 61 lv (.ref k :: st) M Q ↔ jx_Ev d 37 64 lv (.ref (k + 5) :: st) M Q) ∧
  (∀ (d : Nat) (st : List Value) (M : jx_M) (Q : jx_Po) (l0 : Option Value) (x : Int32), jx_Ev d 37 64 [l0, some (.int x)] st M Q ↔ jx_Ev d 37 65 [l0, some (.int x)] (.int x :: st) M Q) ∧
  (∀ (d : Nat) (st : List Value) (M : jx_M) (Q : jx_Po) (l1 : Option Value) (x : Nat), jx_Ev d 37 65 [some (.ref x), l1] st M Q ↔ jx_Ev d 37 66 [some (.ref x), l1] (.ref x :: st) M Q) ∧
  (∀ (d : Nat) (lv : List (Option Value)) (st : List Value) (M : jx_M) (Q : jx_Po), jx_Ev d 37 66 lv st M Q ↔ jx_Ev d 37 67 lv (.int 0 :: st) M Q) ∧
  (∀ (d : Nat) (st : List Value) (M : jx_M) (Q : jx_Po) (l1 : Option Value) (x : Nat), jx_Ev d 37 67 [some (.ref x), l1] st M Q ↔ jx_Ev d 37 68 [some (.ref x), l1] (.ref x :: st) M Q) ∧
  (∀ (d : Nat) (lv : List (Option Value)) (st : List Value) (M : jx_M) (Q : jx_Po), jx_Ev d 37 68 lv (.ref 2 :: st) M Q ↔ jx_Ev d 37 71 lv (jx_rv (M 2 1) :: st) M Q) ∧
  (∀ (d : Nat) (lv : List (Option Value)) (st : List Value) (M : jx_M) (Q : jx_Po) (k : Nat) (hk : jx_cl k = 1), jx_Ev d 37 71 lv (.ref k :: st) M Q ↔ jx_Ev d 37 74 lv (.int (M k 5) :: st) M Q) ∧
  (∀ (d : Nat) (lv : List (Option Value)) (st : List Value) (M : jx_M) (Q : jx_Po), jx_Ev d 37 74 lv st M Q ↔ jx_Ev d 37 75 lv (.int 1 :: st) M Q) ∧
  (∀ (d : Nat) (lv : List (Option Value)) (st : List Value) (M : jx_M) (Q : jx_Po) (x z : Int32), jx_Ev d 37 75 lv (.int z :: .int x :: st) M Q ↔ jx_Ev d 37 76 lv (.int (x - z) :: st) M Q) ∧
  (∀ (d : Nat) (lv : List (Option Value)) (M : jx_M) (Q : jx_Po) (a0 : Int32) (a1 : Int32) (a3 : Int32) (a4 : Nat), jx_Ev (d + 1) 37 76 lv [.int a0, .int a1, .ref 2, .int a3, .ref a4] M Q ↔ jx_I d 40 [.ref 2, .int a1, .int a0] M (fun x M => jx_Ev (d + 1) 37 79 lv (.int x :: [.int a3, .ref a4]) M Q)) ∧
  (∀ (d : Nat) (lv : List (Option Value)) (st : List Value) (M : jx_M) (Q : jx_Po) (x z : Int32) (a : Nat) (ha : jx_cl a = 9), jx_Ev d 37 79 lv (.int z :: .int x :: .ref a :: st) M Q ↔ (vp_in x (jx_sz a) ∧ jx_Ev d 37 80 lv st (jx_up M a x.toNatClampNeg z) Q)) ∧
  (∀ (d : Nat) (st : List Value) (M : jx_M) (Q : jx_Po) (l1 : Option Value) (x : Nat), jx_Ev d 37 80 [some (.ref x), l1] st M Q ↔ jx_Ev d 37 81 [some (.ref x), l1] (.ref x :: st) M Q) ∧
  (∀ (d : Nat) (lv : List (Option Value)) (st : List Value) (M : jx_M) (Q : jx_Po), jx_Ev d 37 81 lv (.ref 2 :: st) M Q ↔ jx_Ev d 37 84 lv (jx_rv (M 2 1) :: st) M Q) ∧
  (∀ (d : Nat) (lv : List (Option Value)) (st : List Value) (M : jx_M) (Q : jx_Po) (k : Nat) (hk : jx_cl k = 1), jx_Ev d 37 84 lv (.ref k :: st) M Q ↔ jx_Ev d 37 87 lv (.ref (k + 5) :: st) M Q) ∧
  (∀ (d : Nat) (st : List Value) (M : jx_M) (Q : jx_Po) (l0 : Option Value) (x : Int32), jx_Ev d 37 87 [l0, some (.int x)] st M Q ↔ jx_Ev d 37 88 [l0, some (.int x)] (.int x :: st) M Q) ∧
  (∀ (d : Nat) (lv : List (Option Value)) (st : List Value) (M : jx_M) (Q : jx_Po) (x : Int32) (a : Nat) (ha : jx_cl a = 9), jx_Ev d 37 88 lv (.int x :: .ref a :: st) M Q ↔ (vp_in x (jx_sz a) ∧ jx_Ev d 37 89 lv (.int (M a x.toNatClampNeg) :: st) M Q)) ∧
  (∀ (d : Nat) (lv : List (Option Value)) (st : List Value) (M : jx_M) (Q : jx_Po) (x : Int32), jx_Ev d 37 89 lv (.int x :: st) M Q ↔ (if x < 0 then jx_Ev d 37 96 lv st M Q else jx_Ev d 37 92 lv st M Q)) ∧
  (∀ (d : Nat) (lv : List (Option Value)) (st : List Value) (M : jx_M) (Q : jx_Po), jx_Ev d 37 92 lv st M Q ↔ jx_Ev d 37 93 lv (.int 1 :: st) M Q) ∧
  (∀ (d : Nat) (lv : List (Option Value)) (st : List Value) (M : jx_M) (Q : jx_Po), jx_Ev d 37 93 lv st M Q ↔ jx_Ev d 37 97 lv st M Q) ∧
  (∀ (d : Nat) (lv : List (Option Value)) (st : List Value) (M : jx_M) (Q : jx_Po), jx_Ev d 37 96 lv st M Q ↔ jx_Ev d 37 97 lv (.int 0 :: st) M Q) ∧
  (∀ (d : Nat) (lv : List (Option Value)) (M : jx_M) (Q : jx_Po) (x : Int32), jx_Ev d 37 97 lv [.int x] M Q ↔ ((x = 0 ∨ x = 1) ∧ Q [.int x] M)) := by
  refine ⟨?_, ?_, ?_, ?_, ?_, ?_, ?_, ?_, ?_, ?_, ?_, ?_, ?_, ?_, ?_, ?_, ?_, ?_, ?_, ?_, ?_, ?_, ?_, ?_, ?_, ?_, ?_, ?_, ?_, ?_, ?_, ?_, ?_, ?_, ?_, ?_, ?_, ?_, ?_, ?_, ?_, ?_, ?_, ?_, ?_, ?_, ?_, ?_, ?_, ?_, ?_, ?_, ?_, ?_, ?_⟩
  · exact fun d st M Q l1 x => jx_ev_st (jx_fok (by decide +kernel : decode (jx_mb 37) 0 = .ok (.aload_n 0, 1))) rfl rfl rfl
  · exact fun d lv st M Q => jx_k_gf (jx_fok (by decide +kernel : decode (jx_mb 37) 1 = .ok (.getfield 15, 3))) rfl rfl rfl
  · exact fun d lv st M Q k hk => jx_k_gf (jx_fok (by decide +kernel : decode (jx_mb 37) 4 = .ok (.getfield 74, 3))) rfl hk rfl
  · exact fun d st M Q l0 x => jx_ev_st (jx_fok (by decide +kernel : decode (jx_mb 37) 7 = .ok (.iload_n 1, 1))) rfl rfl rfl
  · exact fun d st M Q l1 x => jx_ev_st (jx_fok (by decide +kernel : decode (jx_mb 37) 8 = .ok (.aload_n 0, 1))) rfl rfl rfl
  · exact fun d lv M Q a1 a2 => jx_ev_ci (jx_fok (by decide +kernel : decode (jx_mb 37) 9 = .ok (.invokevirtual 77, 3))) rfl (jx_ccV (As := []) (rest := [.int a1, .ref a2]) rfl rfl rfl rfl rfl rfl) (by decide)
  · exact fun d lv st M Q x z a ha => jx_k_as (jx_fok (by decide +kernel : decode (jx_mb 37) 12 = .ok (.iastore, 1))) ha
  · exact fun d st M Q l1 x => jx_ev_st (jx_fok (by decide +kernel : decode (jx_mb 37) 13 = .ok (.aload_n 0, 1))) rfl rfl rfl
  · exact fun d lv st M Q => jx_k_gf (jx_fok (by decide +kernel : decode (jx_mb 37) 14 = .ok (.getfield 15, 3))) rfl rfl rfl
  · exact fun d lv st M Q k hk => jx_k_gf (jx_fok (by decide +kernel : decode (jx_mb 37) 17 = .ok (.getfield 74, 3))) rfl hk rfl
  · exact fun d st M Q l0 x => jx_ev_st (jx_fok (by decide +kernel : decode (jx_mb 37) 20 = .ok (.iload_n 1, 1))) rfl rfl rfl
  · exact fun d lv st M Q x a ha => jx_k_al (jx_fok (by decide +kernel : decode (jx_mb 37) 21 = .ok (.iaload, 1))) ha
  · exact fun d lv st M Q x => jx_k_b1 (jx_fok (by decide +kernel : decode (jx_mb 37) 22 = .ok (.ifCond .ge 5, 3))) rfl jx_hGe
  · exact fun d lv st M Q => jx_ev_st (jx_fok (by decide +kernel : decode (jx_mb 37) 25 = .ok (.iconst 0, 1))) rfl rfl rfl
  · exact fun d lv M Q x => jx_k_rz (jx_fok (by decide +kernel : decode (jx_mb 37) 26 = .ok (.ireturn, 1))) rfl
  · exact fun d st M Q l1 x => jx_ev_st (jx_fok (by decide +kernel : decode (jx_mb 37) 27 = .ok (.aload_n 0, 1))) rfl rfl rfl
  · exact fun d lv st M Q => jx_k_gf (jx_fok (by decide +kernel : decode (jx_mb 37) 28 = .ok (.getfield 15, 3))) rfl rfl rfl
  · exact fun d lv st M Q k hk => jx_k_gf (jx_fok (by decide +kernel : decode (jx_mb 37) 31 = .ok (.getfield 81, 3))) rfl hk rfl
  · exact fun d st M Q l0 x => jx_ev_st (jx_fok (by decide +kernel : decode (jx_mb 37) 34 = .ok (.iload_n 1, 1))) rfl rfl rfl
  · exact fun d st M Q l1 x => jx_ev_st (jx_fok (by decide +kernel : decode (jx_mb 37) 35 = .ok (.aload_n 0, 1))) rfl rfl rfl
  · exact fun d lv st M Q => jx_ev_st (jx_fok (by decide +kernel : decode (jx_mb 37) 36 = .ok (.iconst 1, 1))) rfl rfl rfl
  · exact fun d lv st M Q => jx_ev_st (jx_fok (by decide +kernel : decode (jx_mb 37) 37 = .ok (.bipush 9, 2))) rfl rfl rfl
  · exact fun d lv M Q a0 a1 a3 a4 => jx_ev_ci (jx_fok (by decide +kernel : decode (jx_mb 37) 39 = .ok (.invokevirtual 51, 3))) rfl (jx_ccV (As := [.int a1, .int a0]) (rest := [.int a3, .ref a4]) rfl rfl rfl rfl rfl rfl) (by decide)
  · exact fun d lv st M Q x z a ha => jx_k_as (jx_fok (by decide +kernel : decode (jx_mb 37) 42 = .ok (.iastore, 1))) ha
  · exact fun d st M Q l1 x => jx_ev_st (jx_fok (by decide +kernel : decode (jx_mb 37) 43 = .ok (.aload_n 0, 1))) rfl rfl rfl
  · exact fun d lv st M Q => jx_k_gf (jx_fok (by decide +kernel : decode (jx_mb 37) 44 = .ok (.getfield 15, 3))) rfl rfl rfl
  · exact fun d lv st M Q k hk => jx_k_gf (jx_fok (by decide +kernel : decode (jx_mb 37) 47 = .ok (.getfield 81, 3))) rfl hk rfl
  · exact fun d st M Q l0 x => jx_ev_st (jx_fok (by decide +kernel : decode (jx_mb 37) 50 = .ok (.iload_n 1, 1))) rfl rfl rfl
  · exact fun d lv st M Q x a ha => jx_k_al (jx_fok (by decide +kernel : decode (jx_mb 37) 51 = .ok (.iaload, 1))) ha
  · exact fun d lv st M Q x => jx_k_b1 (jx_fok (by decide +kernel : decode (jx_mb 37) 52 = .ok (.ifCond .ge 5, 3))) rfl jx_hGe
  · exact fun d lv st M Q => jx_ev_st (jx_fok (by decide +kernel : decode (jx_mb 37) 55 = .ok (.iconst 0, 1))) rfl rfl rfl
  · exact fun d lv M Q x => jx_k_rz (jx_fok (by decide +kernel : decode (jx_mb 37) 56 = .ok (.ireturn, 1))) rfl
  · exact fun d st M Q l1 x => jx_ev_st (jx_fok (by decide +kernel : decode (jx_mb 37) 57 = .ok (.aload_n 0, 1))) rfl rfl rfl
  · exact fun d lv st M Q => jx_k_gf (jx_fok (by decide +kernel : decode (jx_mb 37) 58 = .ok (.getfield 15, 3))) rfl rfl rfl
  · exact fun d lv st M Q k hk => jx_k_gf (jx_fok (by decide +kernel : decode (jx_mb 37) 61 = .ok (.getfield 84, 3))) rfl hk rfl
  · exact fun d st M Q l0 x => jx_ev_st (jx_fok (by decide +kernel : decode (jx_mb 37) 64 = .ok (.iload_n 1, 1))) rfl rfl rfl
  · exact fun d st M Q l1 x => jx_ev_st (jx_fok (by decide +kernel : decode (jx_mb 37) 65 = .ok (.aload_n 0, 1))) rfl rfl rfl
  · exact fun d lv st M Q => jx_ev_st (jx_fok (by decide +kernel : decode (jx_mb 37) 66 = .ok (.iconst 0, 1))) rfl rfl rfl
  · exact fun d st M Q l1 x => jx_ev_st (jx_fok (by decide +kernel : decode (jx_mb 37) 67 = .ok (.aload_n 0, 1))) rfl rfl rfl
  · exact fun d lv st M Q => jx_k_gf (jx_fok (by decide +kernel : decode (jx_mb 37) 68 = .ok (.getfield 15, 3))) rfl rfl rfl
  · exact fun d lv st M Q k hk => jx_k_gf (jx_fok (by decide +kernel : decode (jx_mb 37) 71 = .ok (.getfield 29, 3))) rfl hk rfl
  · exact fun d lv st M Q => jx_ev_st (jx_fok (by decide +kernel : decode (jx_mb 37) 74 = .ok (.iconst 1, 1))) rfl rfl rfl
  · exact fun d lv st M Q x z => jx_ev_st (jx_fok (by decide +kernel : decode (jx_mb 37) 75 = .ok (.isub, 1))) rfl rfl rfl
  · exact fun d lv M Q a0 a1 a3 a4 => jx_ev_ci (jx_fok (by decide +kernel : decode (jx_mb 37) 76 = .ok (.invokevirtual 51, 3))) rfl (jx_ccV (As := [.int a1, .int a0]) (rest := [.int a3, .ref a4]) rfl rfl rfl rfl rfl rfl) (by decide)
  · exact fun d lv st M Q x z a ha => jx_k_as (jx_fok (by decide +kernel : decode (jx_mb 37) 79 = .ok (.iastore, 1))) ha
  · exact fun d st M Q l1 x => jx_ev_st (jx_fok (by decide +kernel : decode (jx_mb 37) 80 = .ok (.aload_n 0, 1))) rfl rfl rfl
  · exact fun d lv st M Q => jx_k_gf (jx_fok (by decide +kernel : decode (jx_mb 37) 81 = .ok (.getfield 15, 3))) rfl rfl rfl
  · exact fun d lv st M Q k hk => jx_k_gf (jx_fok (by decide +kernel : decode (jx_mb 37) 84 = .ok (.getfield 84, 3))) rfl hk rfl
  · exact fun d st M Q l0 x => jx_ev_st (jx_fok (by decide +kernel : decode (jx_mb 37) 87 = .ok (.iload_n 1, 1))) rfl rfl rfl
  · exact fun d lv st M Q x a ha => jx_k_al (jx_fok (by decide +kernel : decode (jx_mb 37) 88 = .ok (.iaload, 1))) ha
  · exact fun d lv st M Q x => jx_k_b1 (jx_fok (by decide +kernel : decode (jx_mb 37) 89 = .ok (.ifCond .lt 7, 3))) rfl jx_hLt
  · exact fun d lv st M Q => jx_ev_st (jx_fok (by decide +kernel : decode (jx_mb 37) 92 = .ok (.iconst 1, 1))) rfl rfl rfl
  · exact fun d lv st M Q => jx_k_goto (jx_fok (by decide +kernel : decode (jx_mb 37) 93 = .ok (.goto 4, 3))) rfl
  · exact fun d lv st M Q => jx_ev_st (jx_fok (by decide +kernel : decode (jx_mb 37) 96 = .ok (.iconst 0, 1))) rfl rfl rfl
  · exact fun d lv M Q x => jx_k_rz (jx_fok (by decide +kernel : decode (jx_mb 37) 97 = .ok (.ireturn, 1))) rfl
theorem kX6_readsClap (d : Nat) (M : jx_M) (q : Int32 → jx_M → Prop) (a0 a1 : Value) : jx_I d 37 [a0, a1] M q ↔ jx_Ev d 37 0 [some a0, some a1] [] M (jx_qI q) := Iff.rfl
set_option maxRecDepth 100000 in
theorem eX6_takeKind :
  (∀ (d : Nat) (st : List Value) (M : jx_M) (Q : jx_Po) (l1 : Option Value) (x : Nat), jx_Ev d 38 0 [some (.ref x), l1] st M Q ↔ jx_Ev d 38 1 [some (.ref x), l1] (.ref x :: st) M Q) ∧
  (∀ (d : Nat) (lv : List (Option Value)) (M : jx_M) (Q : jx_Po), jx_Ev (d + 1) 38 1 lv [.ref 2] M Q ↔ jx_I d 42 [.ref 2] M (fun x M => jx_Ev (d + 1) 38 4 lv (.int x :: []) M Q)) ∧
  (∀ (d : Nat) (lv : List (Option Value)) (M : jx_M) (Q : jx_Po) (a0 : Int32), jx_Ev (d + 1) 38 4 lv [.int a0] M Q ↔ jx_I d 39 [.int a0] M (fun x M => jx_Ev (d + 1) 38 7 lv (.int x :: []) M Q)) ∧
  (∀ (d : Nat) (st : List Value) (M : jx_M) (Q : jx_Po) (l0 l1 : Option Value) (x : Int32), jx_Ev d 38 7 [l0, l1] (.int x :: st) M Q ↔ jx_Ev d 38 8 [l0, some (.int x)] st M Q) ∧
  (∀ (d : Nat) (st : List Value) (M : jx_M) (Q : jx_Po) (l0 : Option Value) (x : Int32), jx_Ev d 38 8 [l0, some (.int x)] st M Q ↔ jx_Ev d 38 9 [l0, some (.int x)] (.int x :: st) M Q) ∧
  (∀ (d : Nat) (lv : List (Option Value)) (st : List Value) (M : jx_M) (Q : jx_Po) (x : Int32), jx_Ev d 38 9 lv (.int x :: st) M Q ↔ (if x < 0 then jx_Ev d 38 22 lv st M Q else jx_Ev d 38 12 lv st M Q)) ∧
  (∀ (d : Nat) (st : List Value) (M : jx_M) (Q : jx_Po) (l1 : Option Value) (x : Nat), jx_Ev d 38 12 [some (.ref x), l1] st M Q ↔ jx_Ev d 38 13 [some (.ref x), l1] (.ref x :: st) M Q) ∧
  (∀ (d : Nat) (lv : List (Option Value)) (st : List Value) (M : jx_M) (Q : jx_Po) (x : Nat), jx_Ev d 38 13 lv (.ref x :: st) M Q ↔ jx_Ev d 38 14 lv (.ref x :: .ref x :: st) M Q) ∧
  (∀ (d : Nat) (lv : List (Option Value)) (st : List Value) (M : jx_M) (Q : jx_Po), jx_Ev d 38 14 lv (.ref 2 :: st) M Q ↔ jx_Ev d 38 17 lv (.int (M 2 4) :: st) M Q) ∧
  (∀ (d : Nat) (lv : List (Option Value)) (st : List Value) (M : jx_M) (Q : jx_Po), jx_Ev d 38 17 lv st M Q ↔ jx_Ev d 38 18 lv (.int 1 :: st) M Q) ∧
  (∀ (d : Nat) (lv : List (Option Value)) (st : List Value) (M : jx_M) (Q : jx_Po) (x z : Int32), jx_Ev d 38 18 lv (.int z :: .int x :: st) M Q ↔ jx_Ev d 38 19 lv (.int (x + z) :: st) M Q) ∧
  (∀ (d : Nat) (lv : List (Option Value)) (st : List Value) (M : jx_M) (Q : jx_Po) (x : Int32), jx_Ev d 38 19 lv (.int x :: .ref 2 :: st) M Q ↔ jx_Ev d 38 22 lv st (jx_up M 2 4 x) Q) ∧
  (∀ (d : Nat) (st : List Value) (M : jx_M) (Q : jx_Po) (l0 : Option Value) (x : Int32), jx_Ev d 38 22 [l0, some (.int x)] st M Q ↔ jx_Ev d 38 23 [l0, some (.int x)] (.int x :: st) M Q) ∧
  (∀ (d : Nat) (lv : List (Option Value)) (M : jx_M) (Q : jx_Po) (x : Int32), jx_Ev d 38 23 lv [.int x] M Q ↔ Q [.int x] M) := by
  refine ⟨?_, ?_, ?_, ?_, ?_, ?_, ?_, ?_, ?_, ?_, ?_, ?_, ?_, ?_⟩
  · exact fun d st M Q l1 x => jx_ev_st (jx_fok (by decide +kernel : decode (jx_mb 38) 0 = .ok (.aload_n 0, 1))) rfl rfl rfl
  · exact fun d lv M Q => jx_ev_ci (jx_fok (by decide +kernel : decode (jx_mb 38) 1 = .ok (.invokevirtual 87, 3))) rfl (jx_ccV (As := []) (rest := []) rfl rfl rfl rfl rfl rfl) (by decide)
  · exact fun d lv M Q a0 => jx_ev_ci (jx_fok (by decide +kernel : decode (jx_mb 38) 4 = .ok (.invokestatic 90, 3))) rfl (jx_ccS (As := [.int a0]) (rest := []) rfl rfl rfl rfl rfl) (by decide)
  · exact fun d st M Q l0 l1 x => jx_ev_st (jx_fok (by decide +kernel : decode (jx_mb 38) 7 = .ok (.istore_n 1, 1))) rfl rfl rfl
  · exact fun d st M Q l0 x => jx_ev_st (jx_fok (by decide +kernel : decode (jx_mb 38) 8 = .ok (.iload_n 1, 1))) rfl rfl rfl
  · exact fun d lv st M Q x => jx_k_b1 (jx_fok (by decide +kernel : decode (jx_mb 38) 9 = .ok (.ifCond .lt 13, 3))) rfl jx_hLt
  · exact fun d st M Q l1 x => jx_ev_st (jx_fok (by decide +kernel : decode (jx_mb 38) 12 = .ok (.aload_n 0, 1))) rfl rfl rfl
  · exact fun d lv st M Q x => jx_ev_st (jx_fok (by decide +kernel : decode (jx_mb 38) 13 = .ok (.dup, 1))) rfl rfl rfl
  · exact fun d lv st M Q => jx_k_gf (jx_fok (by decide +kernel : decode (jx_mb 38) 14 = .ok (.getfield 26, 3))) rfl rfl rfl
  · exact fun d lv st M Q => jx_ev_st (jx_fok (by decide +kernel : decode (jx_mb 38) 17 = .ok (.iconst 1, 1))) rfl rfl rfl
  · exact fun d lv st M Q x z => jx_ev_st (jx_fok (by decide +kernel : decode (jx_mb 38) 18 = .ok (.iadd, 1))) rfl rfl rfl
  · exact fun d lv st M Q x => jx_k_pf0 (jx_fok (by decide +kernel : decode (jx_mb 38) 19 = .ok (.putfield 26, 3))) rfl rfl rfl
  · exact fun d st M Q l0 x => jx_ev_st (jx_fok (by decide +kernel : decode (jx_mb 38) 22 = .ok (.iload_n 1, 1))) rfl rfl rfl
  · exact fun d lv M Q x => jx_k_ri (jx_fok (by decide +kernel : decode (jx_mb 38) 23 = .ok (.ireturn, 1))) rfl
theorem kX6_takeKind (d : Nat) (M : jx_M) (q : Int32 → jx_M → Prop) (a0 : Value) : jx_I d 38 [a0] M q ↔ jx_Ev d 38 0 [some a0, none] [] M (jx_qI q) := Iff.rfl
set_option maxRecDepth 100000 in
theorem eX6_kindOf :
  (∀ (d : Nat) (st : List Value) (M : jx_M) (Q : jx_Po) (x : Int32), jx_Ev d 39 0 [some (.int x)] st M Q ↔ jx_Ev d 39 1 [some (.int x)] (.int x :: st) M Q) ∧
  (∀ (d : Nat) (lv : List (Option Value)) (st : List Value) (M : jx_M) (Q : jx_Po) (x : Int32), jx_Ev d 39 1 lv (.int x :: st) M Q ↔ (if x = 98 then jx_Ev d 39 32 lv st M Q else if x = 99 then jx_Ev d 39 28 lv st M Q else if x = 100 then jx_Ev d 39 30 lv st M Q else jx_Ev d 39 34 lv st M Q)) ∧
  (∀ (d : Nat) (lv : List (Option Value)) (st : List Value) (M : jx_M) (Q : jx_Po), jx_Ev d 39 28 lv st M Q ↔ jx_Ev d 39 29 lv (.int 0 :: st) M Q) ∧
  (∀ (d : Nat) (lv : List (Option Value)) (M : jx_M) (Q : jx_Po) (x : Int32), jx_Ev d 39 29 lv [.int x] M Q ↔ Q [.int x] M) ∧
  (∀ (d : Nat) (lv : List (Option Value)) (st : List Value) (M : jx_M) (Q : jx_Po), jx_Ev d 39 30 lv st M Q ↔ jx_Ev d 39 31 lv (.int 1 :: st) M Q) ∧
  (∀ (d : Nat) (lv : List (Option Value)) (M : jx_M) (Q : jx_Po) (x : Int32), jx_Ev d 39 31 lv [.int x] M Q ↔ Q [.int x] M) ∧
  (∀ (d : Nat) (lv : List (Option Value)) (st : List Value) (M : jx_M) (Q : jx_Po), jx_Ev d 39 32 lv st M Q ↔ jx_Ev d 39 33 lv (.int 2 :: st) M Q) ∧
  (∀ (d : Nat) (lv : List (Option Value)) (M : jx_M) (Q : jx_Po) (x : Int32), jx_Ev d 39 33 lv [.int x] M Q ↔ Q [.int x] M) ∧
  (∀ (d : Nat) (lv : List (Option Value)) (st : List Value) (M : jx_M) (Q : jx_Po), jx_Ev d 39 34 lv st M Q ↔ jx_Ev d 39 36 lv (.int (-9) :: st) M Q) ∧
  (∀ (d : Nat) (lv : List (Option Value)) (M : jx_M) (Q : jx_Po) (x : Int32), jx_Ev d 39 36 lv [.int x] M Q ↔ Q [.int x] M) := by
  refine ⟨?_, ?_, ?_, ?_, ?_, ?_, ?_, ?_, ?_, ?_⟩
  · exact fun d st M Q x => jx_ev_st (jx_fok (by decide +kernel : decode (jx_mb 39) 0 = .ok (.iload_n 0, 1))) rfl rfl rfl
  · intro d lv st M Q x
    by_cases h0 : x = 98
    · subst h0; rw [if_pos rfl]; exact jx_k_tsi (jx_fok (by decide +kernel : decode (jx_mb 39) 1 = .ok (.tableswitch 33 98 100 #[31, 27, 29], 27))) (by decide) rfl rfl
    rw [if_neg h0]
    by_cases h1 : x = 99
    · subst h1; rw [if_pos rfl]; exact jx_k_tsi (jx_fok (by decide +kernel : decode (jx_mb 39) 1 = .ok (.tableswitch 33 98 100 #[31, 27, 29], 27))) (by decide) rfl rfl
    rw [if_neg h1]
    by_cases h2 : x = 100
    · subst h2; rw [if_pos rfl]; exact jx_k_tsi (jx_fok (by decide +kernel : decode (jx_mb 39) 1 = .ok (.tableswitch 33 98 100 #[31, 27, 29], 27))) (by decide) rfl rfl
    rw [if_neg h2]
    exact jx_k_tso (jx_fok (by decide +kernel : decode (jx_mb 39) 1 = .ok (.tableswitch 33 98 100 #[31, 27, 29], 27))) (by have e0 := jx_i0 98 h0 (by omega); have e1 := jx_i0 99 h1 (by omega); have e2 := jx_i0 100 h2 (by omega); omega) rfl
  · exact fun d lv st M Q => jx_ev_st (jx_fok (by decide +kernel : decode (jx_mb 39) 28 = .ok (.iconst 0, 1))) rfl rfl rfl
  · exact fun d lv M Q x => jx_k_ri (jx_fok (by decide +kernel : decode (jx_mb 39) 29 = .ok (.ireturn, 1))) rfl
  · exact fun d lv st M Q => jx_ev_st (jx_fok (by decide +kernel : decode (jx_mb 39) 30 = .ok (.iconst 1, 1))) rfl rfl rfl
  · exact fun d lv M Q x => jx_k_ri (jx_fok (by decide +kernel : decode (jx_mb 39) 31 = .ok (.ireturn, 1))) rfl
  · exact fun d lv st M Q => jx_ev_st (jx_fok (by decide +kernel : decode (jx_mb 39) 32 = .ok (.iconst 2, 1))) rfl rfl rfl
  · exact fun d lv M Q x => jx_k_ri (jx_fok (by decide +kernel : decode (jx_mb 39) 33 = .ok (.ireturn, 1))) rfl
  · exact fun d lv st M Q => jx_ev_st (jx_fok (by decide +kernel : decode (jx_mb 39) 34 = .ok (.bipush (-9), 2))) rfl rfl rfl
  · exact fun d lv M Q x => jx_k_ri (jx_fok (by decide +kernel : decode (jx_mb 39) 36 = .ok (.ireturn, 1))) rfl
theorem kX6_kindOf (d : Nat) (M : jx_M) (q : Int32 → jx_M → Prop) (a0 : Value) : jx_I d 39 [a0] M q ↔ jx_Ev d 39 0 [some a0] [] M (jx_qI q) := Iff.rfl
set_option maxRecDepth 100000 in
theorem eX6_takeDigit :
  (∀ (d : Nat) (st : List Value) (M : jx_M) (Q : jx_Po) (l1 l2 l3 : Option Value) (x : Nat), jx_Ev d 40 0 [some (.ref x), l1, l2, l3] st M Q ↔ jx_Ev d 40 1 [some (.ref x), l1, l2, l3] (.ref x :: st) M Q) ∧
  (∀ (d : Nat) (lv : List (Option Value)) (M : jx_M) (Q : jx_Po), jx_Ev (d + 1) 40 1 lv [.ref 2] M Q ↔ jx_I d 42 [.ref 2] M (fun x M => jx_Ev (d + 1) 40 4 lv (.int x :: []) M Q)) ∧
  (∀ (d : Nat) (lv : List (Option Value)) (st : List Value) (M : jx_M) (Q : jx_Po), jx_Ev d 40 4 lv st M Q ↔ jx_Ev d 40 6 lv (.int 48 :: st) M Q) ∧
  (∀ (d : Nat) (lv : List (Option Value)) (st : List Value) (M : jx_M) (Q : jx_Po) (x z : Int32), jx_Ev d 40 6 lv (.int z :: .int x :: st) M Q ↔ jx_Ev d 40 7 lv (.int (x - z) :: st) M Q) ∧
  (∀ (d : Nat) (st : List Value) (M : jx_M) (Q : jx_Po) (l0 l1 l2 l3 : Option Value) (x : Int32), jx_Ev d 40 7 [l0, l1, l2, l3] (.int x :: st) M Q ↔ jx_Ev d 40 8 [l0, l1, l2, some (.int x)] st M Q) ∧
  (∀ (d : Nat) (st : List Value) (M : jx_M) (Q : jx_Po) (l0 l1 l2 : Option Value) (x : Int32), jx_Ev d 40 8 [l0, l1, l2, some (.int x)] st M Q ↔ jx_Ev d 40 9 [l0, l1, l2, some (.int x)] (.int x :: st) M Q) ∧
  (∀ (d : Nat) (st : List Value) (M : jx_M) (Q : jx_Po) (l0 l2 l3 : Option Value) (x : Int32), jx_Ev d 40 9 [l0, some (.int x), l2, l3] st M Q ↔ jx_Ev d 40 10 [l0, some (.int x), l2, l3] (.int x :: st) M Q) ∧
  (∀ (d : Nat) (lv : List (Option Value)) (st : List Value) (M : jx_M) (Q : jx_Po) (x z : Int32), jx_Ev d 40 10 lv (.int z :: .int x :: st) M Q ↔ (if x < z then jx_Ev d 40 18 lv st M Q else jx_Ev d 40 13 lv st M Q)) ∧
  (∀ (d : Nat) (st : List Value) (M : jx_M) (Q : jx_Po) (l0 l1 l2 : Option Value) (x : Int32), jx_Ev d 40 13 [l0, l1, l2, some (.int x)] st M Q ↔ jx_Ev d 40 14 [l0, l1, l2, some (.int x)] (.int x :: st) M Q) ∧
  (∀ (d : Nat) (st : List Value) (M : jx_M) (Q : jx_Po) (l0 l1 l3 : Option Value) (x : Int32), jx_Ev d 40 14 [l0, l1, some (.int x), l3] st M Q ↔ jx_Ev d 40 15 [l0, l1, some (.int x), l3] (.int x :: st) M Q) ∧
  (∀ (d : Nat) (lv : List (Option Value)) (st : List Value) (M : jx_M) (Q : jx_Po) (x z : Int32), jx_Ev d 40 15 lv (.int z :: .int x :: st) M Q ↔ (if x ≤ z then jx_Ev d 40 21 lv st M Q else jx_Ev d 40 18 lv st M Q)) ∧
  (∀ (d : Nat) (lv : List (Option Value)) (st : List Value) (M : jx_M) (Q : jx_Po), jx_Ev d 40 18 lv st M Q ↔ jx_Ev d 40 20 lv (.int (-9) :: st) M Q) ∧
  (∀ (d : Nat) (lv : List (Option Value)) (M : jx_M) (Q : jx_Po) (x : Int32), jx_Ev d 40 20 lv [.int x] M Q ↔ Q [.int x] M) ∧
  (∀ (d : Nat) (st : List Value) (M : jx_M) (Q : jx_Po) (l1 l2 l3 : Option Value) (x : Nat), jx_Ev d 40 21 [some (.ref x), l1, l2, l3] st M Q ↔ jx_Ev d 40 22 [some (.ref x), l1, l2, l3] (.ref x :: st) M Q) ∧
  (∀ (d : Nat) (lv : List (Option Value)) (st : List Value) (M : jx_M) (Q : jx_Po) (x : Nat), jx_Ev d 40 22 lv (.ref x :: st) M Q ↔ jx_Ev d 40 23 lv (.ref x :: .ref x :: st) M Q) ∧
  (∀ (d : Nat) (lv : List (Option Value)) (st : List Value) (M : jx_M) (Q : jx_Po), jx_Ev d 40 23 lv (.ref 2 :: st) M Q ↔ jx_Ev d 40 26 lv (.int (M 2 4) :: st) M Q) ∧
  (∀ (d : Nat) (lv : List (Option Value)) (st : List Value) (M : jx_M) (Q : jx_Po), jx_Ev d 40 26 lv st M Q ↔ jx_Ev d 40 27 lv (.int 1 :: st) M Q) ∧
  (∀ (d : Nat) (lv : List (Option Value)) (st : List Value) (M : jx_M) (Q : jx_Po) (x z : Int32), jx_Ev d 40 27 lv (.int z :: .int x :: st) M Q ↔ jx_Ev d 40 28 lv (.int (x + z) :: st) M Q) ∧
  (∀ (d : Nat) (lv : List (Option Value)) (st : List Value) (M : jx_M) (Q : jx_Po) (x : Int32), jx_Ev d 40 28 lv (.int x :: .ref 2 :: st) M Q ↔ jx_Ev d 40 31 lv st (jx_up M 2 4 x) Q) ∧
  (∀ (d : Nat) (st : List Value) (M : jx_M) (Q : jx_Po) (l0 l1 l2 : Option Value) (x : Int32), jx_Ev d 40 31 [l0, l1, l2, some (.int x)] st M Q ↔ jx_Ev d 40 32 [l0, l1, l2, some (.int x)] (.int x :: st) M Q) ∧
  (∀ (d : Nat) (lv : List (Option Value)) (M : jx_M) (Q : jx_Po) (x : Int32), jx_Ev d 40 32 lv [.int x] M Q ↔ Q [.int x] M) := by
  refine ⟨?_, ?_, ?_, ?_, ?_, ?_, ?_, ?_, ?_, ?_, ?_, ?_, ?_, ?_, ?_, ?_, ?_, ?_, ?_, ?_, ?_⟩
  · exact fun d st M Q l1 l2 l3 x => jx_ev_st (jx_fok (by decide +kernel : decode (jx_mb 40) 0 = .ok (.aload_n 0, 1))) rfl rfl rfl
  · exact fun d lv M Q => jx_ev_ci (jx_fok (by decide +kernel : decode (jx_mb 40) 1 = .ok (.invokevirtual 87, 3))) rfl (jx_ccV (As := []) (rest := []) rfl rfl rfl rfl rfl rfl) (by decide)
  · exact fun d lv st M Q => jx_ev_st (jx_fok (by decide +kernel : decode (jx_mb 40) 4 = .ok (.bipush 48, 2))) rfl rfl rfl
  · exact fun d lv st M Q x z => jx_ev_st (jx_fok (by decide +kernel : decode (jx_mb 40) 6 = .ok (.isub, 1))) rfl rfl rfl
  · exact fun d st M Q l0 l1 l2 l3 x => jx_ev_st (jx_fok (by decide +kernel : decode (jx_mb 40) 7 = .ok (.istore_n 3, 1))) rfl rfl rfl
  · exact fun d st M Q l0 l1 l2 x => jx_ev_st (jx_fok (by decide +kernel : decode (jx_mb 40) 8 = .ok (.iload_n 3, 1))) rfl rfl rfl
  · exact fun d st M Q l0 l2 l3 x => jx_ev_st (jx_fok (by decide +kernel : decode (jx_mb 40) 9 = .ok (.iload_n 1, 1))) rfl rfl rfl
  · exact fun d lv st M Q x z => jx_k_b2 (jx_fok (by decide +kernel : decode (jx_mb 40) 10 = .ok (.if_icmp .lt 8, 3))) rfl jx_hLt
  · exact fun d st M Q l0 l1 l2 x => jx_ev_st (jx_fok (by decide +kernel : decode (jx_mb 40) 13 = .ok (.iload_n 3, 1))) rfl rfl rfl
  · exact fun d st M Q l0 l1 l3 x => jx_ev_st (jx_fok (by decide +kernel : decode (jx_mb 40) 14 = .ok (.iload_n 2, 1))) rfl rfl rfl
  · exact fun d lv st M Q x z => jx_k_b2 (jx_fok (by decide +kernel : decode (jx_mb 40) 15 = .ok (.if_icmp .le 6, 3))) rfl jx_hLe
  · exact fun d lv st M Q => jx_ev_st (jx_fok (by decide +kernel : decode (jx_mb 40) 18 = .ok (.bipush (-9), 2))) rfl rfl rfl
  · exact fun d lv M Q x => jx_k_ri (jx_fok (by decide +kernel : decode (jx_mb 40) 20 = .ok (.ireturn, 1))) rfl
  · exact fun d st M Q l1 l2 l3 x => jx_ev_st (jx_fok (by decide +kernel : decode (jx_mb 40) 21 = .ok (.aload_n 0, 1))) rfl rfl rfl
  · exact fun d lv st M Q x => jx_ev_st (jx_fok (by decide +kernel : decode (jx_mb 40) 22 = .ok (.dup, 1))) rfl rfl rfl
  · exact fun d lv st M Q => jx_k_gf (jx_fok (by decide +kernel : decode (jx_mb 40) 23 = .ok (.getfield 26, 3))) rfl rfl rfl
  · exact fun d lv st M Q => jx_ev_st (jx_fok (by decide +kernel : decode (jx_mb 40) 26 = .ok (.iconst 1, 1))) rfl rfl rfl
  · exact fun d lv st M Q x z => jx_ev_st (jx_fok (by decide +kernel : decode (jx_mb 40) 27 = .ok (.iadd, 1))) rfl rfl rfl
  · exact fun d lv st M Q x => jx_k_pf0 (jx_fok (by decide +kernel : decode (jx_mb 40) 28 = .ok (.putfield 26, 3))) rfl rfl rfl
  · exact fun d st M Q l0 l1 l2 x => jx_ev_st (jx_fok (by decide +kernel : decode (jx_mb 40) 31 = .ok (.iload_n 3, 1))) rfl rfl rfl
  · exact fun d lv M Q x => jx_k_ri (jx_fok (by decide +kernel : decode (jx_mb 40) 32 = .ok (.ireturn, 1))) rfl
theorem kX6_takeDigit (d : Nat) (M : jx_M) (q : Int32 → jx_M → Prop) (a0 a1 a2 : Value) : jx_I d 40 [a0, a1, a2] M q ↔ jx_Ev d 40 0 [some a0, some a1, some a2, none] [] M (jx_qI q) := Iff.rfl
set_option maxRecDepth 100000 in
theorem eX6_takes :
  (∀ (d : Nat) (st : List Value) (M : jx_M) (Q : jx_Po) (l1 : Option Value) (x : Nat), jx_Ev d 41 0 [some (.ref x), l1] st M Q ↔ jx_Ev d 41 1 [some (.ref x), l1] (.ref x :: st) M Q) ∧
  (∀ (d : Nat) (lv : List (Option Value)) (M : jx_M) (Q : jx_Po), jx_Ev (d + 1) 41 1 lv [.ref 2] M Q ↔ jx_I d 42 [.ref 2] M (fun x M => jx_Ev (d + 1) 41 4 lv (.int x :: []) M Q)) ∧
  (∀ (d : Nat) (st : List Value) (M : jx_M) (Q : jx_Po) (l0 : Option Value) (x : Int32), jx_Ev d 41 4 [l0, some (.int x)] st M Q ↔ jx_Ev d 41 5 [l0, some (.int x)] (.int x :: st) M Q) ∧
  (∀ (d : Nat) (lv : List (Option Value)) (st : List Value) (M : jx_M) (Q : jx_Po) (x z : Int32), jx_Ev d 41 5 lv (.int z :: .int x :: st) M Q ↔ (if x = z then jx_Ev d 41 10 lv st M Q else jx_Ev d 41 8 lv st M Q)) ∧
  (∀ (d : Nat) (lv : List (Option Value)) (st : List Value) (M : jx_M) (Q : jx_Po), jx_Ev d 41 8 lv st M Q ↔ jx_Ev d 41 9 lv (.int 0 :: st) M Q) ∧
  (∀ (d : Nat) (lv : List (Option Value)) (M : jx_M) (Q : jx_Po) (x : Int32), jx_Ev d 41 9 lv [.int x] M Q ↔ ((x = 0 ∨ x = 1) ∧ Q [.int x] M)) ∧
  (∀ (d : Nat) (st : List Value) (M : jx_M) (Q : jx_Po) (l1 : Option Value) (x : Nat), jx_Ev d 41 10 [some (.ref x), l1] st M Q ↔ jx_Ev d 41 11 [some (.ref x), l1] (.ref x :: st) M Q) ∧
  (∀ (d : Nat) (lv : List (Option Value)) (st : List Value) (M : jx_M) (Q : jx_Po) (x : Nat), jx_Ev d 41 11 lv (.ref x :: st) M Q ↔ jx_Ev d 41 12 lv (.ref x :: .ref x :: st) M Q) ∧
  (∀ (d : Nat) (lv : List (Option Value)) (st : List Value) (M : jx_M) (Q : jx_Po), jx_Ev d 41 12 lv (.ref 2 :: st) M Q ↔ jx_Ev d 41 15 lv (.int (M 2 4) :: st) M Q) ∧
  (∀ (d : Nat) (lv : List (Option Value)) (st : List Value) (M : jx_M) (Q : jx_Po), jx_Ev d 41 15 lv st M Q ↔ jx_Ev d 41 16 lv (.int 1 :: st) M Q) ∧
  (∀ (d : Nat) (lv : List (Option Value)) (st : List Value) (M : jx_M) (Q : jx_Po) (x z : Int32), jx_Ev d 41 16 lv (.int z :: .int x :: st) M Q ↔ jx_Ev d 41 17 lv (.int (x + z) :: st) M Q) ∧
  (∀ (d : Nat) (lv : List (Option Value)) (st : List Value) (M : jx_M) (Q : jx_Po) (x : Int32), jx_Ev d 41 17 lv (.int x :: .ref 2 :: st) M Q ↔ jx_Ev d 41 20 lv st (jx_up M 2 4 x) Q) ∧
  (∀ (d : Nat) (lv : List (Option Value)) (st : List Value) (M : jx_M) (Q : jx_Po), jx_Ev d 41 20 lv st M Q ↔ jx_Ev d 41 21 lv (.int 1 :: st) M Q) ∧
  (∀ (d : Nat) (lv : List (Option Value)) (M : jx_M) (Q : jx_Po) (x : Int32), jx_Ev d 41 21 lv [.int x] M Q ↔ ((x = 0 ∨ x = 1) ∧ Q [.int x] M)) := by
  refine ⟨?_, ?_, ?_, ?_, ?_, ?_, ?_, ?_, ?_, ?_, ?_, ?_, ?_, ?_⟩
  · exact fun d st M Q l1 x => jx_ev_st (jx_fok (by decide +kernel : decode (jx_mb 41) 0 = .ok (.aload_n 0, 1))) rfl rfl rfl
  · exact fun d lv M Q => jx_ev_ci (jx_fok (by decide +kernel : decode (jx_mb 41) 1 = .ok (.invokevirtual 87, 3))) rfl (jx_ccV (As := []) (rest := []) rfl rfl rfl rfl rfl rfl) (by decide)
  · exact fun d st M Q l0 x => jx_ev_st (jx_fok (by decide +kernel : decode (jx_mb 41) 4 = .ok (.iload_n 1, 1))) rfl rfl rfl
  · exact fun d lv st M Q x z => jx_k_b2 (jx_fok (by decide +kernel : decode (jx_mb 41) 5 = .ok (.if_icmp .eq 5, 3))) rfl jx_hEq
  · exact fun d lv st M Q => jx_ev_st (jx_fok (by decide +kernel : decode (jx_mb 41) 8 = .ok (.iconst 0, 1))) rfl rfl rfl
  · exact fun d lv M Q x => jx_k_rz (jx_fok (by decide +kernel : decode (jx_mb 41) 9 = .ok (.ireturn, 1))) rfl
  · exact fun d st M Q l1 x => jx_ev_st (jx_fok (by decide +kernel : decode (jx_mb 41) 10 = .ok (.aload_n 0, 1))) rfl rfl rfl
  · exact fun d lv st M Q x => jx_ev_st (jx_fok (by decide +kernel : decode (jx_mb 41) 11 = .ok (.dup, 1))) rfl rfl rfl
  · exact fun d lv st M Q => jx_k_gf (jx_fok (by decide +kernel : decode (jx_mb 41) 12 = .ok (.getfield 26, 3))) rfl rfl rfl
  · exact fun d lv st M Q => jx_ev_st (jx_fok (by decide +kernel : decode (jx_mb 41) 15 = .ok (.iconst 1, 1))) rfl rfl rfl
  · exact fun d lv st M Q x z => jx_ev_st (jx_fok (by decide +kernel : decode (jx_mb 41) 16 = .ok (.iadd, 1))) rfl rfl rfl
  · exact fun d lv st M Q x => jx_k_pf0 (jx_fok (by decide +kernel : decode (jx_mb 41) 17 = .ok (.putfield 26, 3))) rfl rfl rfl
  · exact fun d lv st M Q => jx_ev_st (jx_fok (by decide +kernel : decode (jx_mb 41) 20 = .ok (.iconst 1, 1))) rfl rfl rfl
  · exact fun d lv M Q x => jx_k_rz (jx_fok (by decide +kernel : decode (jx_mb 41) 21 = .ok (.ireturn, 1))) rfl
theorem kX6_takes (d : Nat) (M : jx_M) (q : Int32 → jx_M → Prop) (a0 a1 : Value) : jx_I d 41 [a0, a1] M q ↔ jx_Ev d 41 0 [some a0, some a1] [] M (jx_qI q) := Iff.rfl
set_option maxRecDepth 100000 in
theorem eX6_nextCode :
  (∀ (d : Nat) (st : List Value) (M : jx_M) (Q : jx_Po) (x : Nat), jx_Ev d 42 0 [some (.ref x)] st M Q ↔ jx_Ev d 42 1 [some (.ref x)] (.ref x :: st) M Q) ∧
  (∀ (d : Nat) (lv : List (Option Value)) (st : List Value) (M : jx_M) (Q : jx_Po), jx_Ev d 42 1 lv (.ref 2 :: st) M Q ↔ jx_Ev d 42 4 lv (jx_rv (M 2 0) :: st) M Q) ∧
  (∀ (d : Nat) (lv : List (Option Value)) (st : List Value) (M : jx_M) (Q : jx_Po) (k : Nat), jx_Ev d 42 4 lv (.ref k :: st) M Q ↔ jx_Ev d 42 7 lv st M Q) ∧
  (∀ (d : Nat) (lv : List (Option Value)) (st : List Value) (M : jx_M) (Q : jx_Po), jx_Ev d 42 4 lv (.null :: st) M Q ↔ jx_Ev d 42 37 lv st M Q) ∧
  (∀ (d : Nat) (st : List Value) (M : jx_M) (Q : jx_Po) (x : Nat), jx_Ev d 42 7 [some (.ref x)] st M Q ↔ jx_Ev d 42 8 [some (.ref x)] (.ref x :: st) M Q) ∧
  (∀ (d : Nat) (lv : List (Option Value)) (st : List Value) (M : jx_M) (Q : jx_Po), jx_Ev d 42 8 lv (.ref 2 :: st) M Q ↔ jx_Ev d 42 11 lv (.int (M 2 4) :: st) M Q) ∧
  (∀ (d : Nat) (st : List Value) (M : jx_M) (Q : jx_Po) (x : Nat), jx_Ev d 42 11 [some (.ref x)] st M Q ↔ jx_Ev d 42 12 [some (.ref x)] (.ref x :: st) M Q) ∧
  (∀ (d : Nat) (lv : List (Option Value)) (st : List Value) (M : jx_M) (Q : jx_Po), jx_Ev d 42 12 lv (.ref 2 :: st) M Q ↔ jx_Ev d 42 15 lv (.int (M 2 3) :: st) M Q) ∧
  (∀ (d : Nat) (lv : List (Option Value)) (st : List Value) (M : jx_M) (Q : jx_Po) (x z : Int32), jx_Ev d 42 15 lv (.int z :: .int x :: st) M Q ↔ (if z ≤ x then jx_Ev d 42 37 lv st M Q else jx_Ev d 42 18 lv st M Q)) ∧
  (∀ (d : Nat) (st : List Value) (M : jx_M) (Q : jx_Po) (x : Nat), jx_Ev d 42 18 [some (.ref x)] st M Q ↔ jx_Ev d 42 19 [some (.ref x)] (.ref x :: st) M Q) ∧
  (∀ (d : Nat) (lv : List (Option Value)) (st : List Value) (M : jx_M) (Q : jx_Po), jx_Ev d 42 19 lv (.ref 2 :: st) M Q ↔ jx_Ev d 42 22 lv (jx_rv (M 2 0) :: st) M Q) ∧
  (∀ (d : Nat) (st : List Value) (M : jx_M) (Q : jx_Po) (x : Nat), jx_Ev d 42 22 [some (.ref x)] st M Q ↔ jx_Ev d 42 23 [some (.ref x)] (.ref x :: st) M Q) ∧
  (∀ (d : Nat) (lv : List (Option Value)) (st : List Value) (M : jx_M) (Q : jx_Po), jx_Ev d 42 23 lv (.ref 2 :: st) M Q ↔ jx_Ev d 42 26 lv (.int (M 2 2) :: st) M Q) ∧
  (∀ (d : Nat) (st : List Value) (M : jx_M) (Q : jx_Po) (x : Nat), jx_Ev d 42 26 [some (.ref x)] st M Q ↔ jx_Ev d 42 27 [some (.ref x)] (.ref x :: st) M Q) ∧
  (∀ (d : Nat) (lv : List (Option Value)) (st : List Value) (M : jx_M) (Q : jx_Po), jx_Ev d 42 27 lv (.ref 2 :: st) M Q ↔ jx_Ev d 42 30 lv (.int (M 2 4) :: st) M Q) ∧
  (∀ (d : Nat) (lv : List (Option Value)) (st : List Value) (M : jx_M) (Q : jx_Po) (x z : Int32), jx_Ev d 42 30 lv (.int z :: .int x :: st) M Q ↔ jx_Ev d 42 31 lv (.int (x + z) :: st) M Q) ∧
  (∀ (d : Nat) (lv : List (Option Value)) (M : jx_M) (Q : jx_Po) (a0 : Int32) (a1 : Nat) (hk : jx_cl a1 = 4), jx_Ev (d + 1) 42 31 lv [.int a0, .ref a1] M Q ↔ jx_I d 23 [.ref a1, .int a0] M (fun x M => jx_Ev (d + 1) 42 34 lv (.int x :: []) M Q)) ∧
  (∀ (d : Nat) (lv : List (Option Value)) (st : List Value) (M : jx_M) (Q : jx_Po), jx_Ev d 42 34 lv st M Q ↔ jx_Ev d 42 39 lv st M Q) ∧
  (∀ (d : Nat) (lv : List (Option Value)) (st : List Value) (M : jx_M) (Q : jx_Po), jx_Ev d 42 37 lv st M Q ↔ jx_Ev d 42 39 lv (.int (-9) :: st) M Q) ∧
  (∀ (d : Nat) (lv : List (Option Value)) (M : jx_M) (Q : jx_Po) (x : Int32), jx_Ev d 42 39 lv [.int x] M Q ↔ Q [.int x] M) := by
  refine ⟨?_, ?_, ?_, ?_, ?_, ?_, ?_, ?_, ?_, ?_, ?_, ?_, ?_, ?_, ?_, ?_, ?_, ?_, ?_, ?_⟩
  · exact fun d st M Q x => jx_ev_st (jx_fok (by decide +kernel : decode (jx_mb 42) 0 = .ok (.aload_n 0, 1))) rfl rfl rfl
  · exact fun d lv st M Q => jx_k_gf (jx_fok (by decide +kernel : decode (jx_mb 42) 1 = .ok (.getfield 9, 3))) rfl rfl rfl
  · exact fun d lv st M Q k => jx_k_nr (jx_fok (by decide +kernel : decode (jx_mb 42) 4 = .ok (.ifnull 33, 3)))
  · exact fun d lv st M Q => jx_k_nn (jx_fok (by decide +kernel : decode (jx_mb 42) 4 = .ok (.ifnull 33, 3))) rfl
  · exact fun d st M Q x => jx_ev_st (jx_fok (by decide +kernel : decode (jx_mb 42) 7 = .ok (.aload_n 0, 1))) rfl rfl rfl
  · exact fun d lv st M Q => jx_k_gf (jx_fok (by decide +kernel : decode (jx_mb 42) 8 = .ok (.getfield 26, 3))) rfl rfl rfl
  · exact fun d st M Q x => jx_ev_st (jx_fok (by decide +kernel : decode (jx_mb 42) 11 = .ok (.aload_n 0, 1))) rfl rfl rfl
  · exact fun d lv st M Q => jx_k_gf (jx_fok (by decide +kernel : decode (jx_mb 42) 12 = .ok (.getfield 23, 3))) rfl rfl rfl
  · exact fun d lv st M Q x z => jx_k_b2 (jx_fok (by decide +kernel : decode (jx_mb 42) 15 = .ok (.if_icmp .ge 22, 3))) rfl jx_hGe
  · exact fun d st M Q x => jx_ev_st (jx_fok (by decide +kernel : decode (jx_mb 42) 18 = .ok (.aload_n 0, 1))) rfl rfl rfl
  · exact fun d lv st M Q => jx_k_gf (jx_fok (by decide +kernel : decode (jx_mb 42) 19 = .ok (.getfield 9, 3))) rfl rfl rfl
  · exact fun d st M Q x => jx_ev_st (jx_fok (by decide +kernel : decode (jx_mb 42) 22 = .ok (.aload_n 0, 1))) rfl rfl rfl
  · exact fun d lv st M Q => jx_k_gf (jx_fok (by decide +kernel : decode (jx_mb 42) 23 = .ok (.getfield 19, 3))) rfl rfl rfl
  · exact fun d st M Q x => jx_ev_st (jx_fok (by decide +kernel : decode (jx_mb 42) 26 = .ok (.aload_n 0, 1))) rfl rfl rfl
  · exact fun d lv st M Q => jx_k_gf (jx_fok (by decide +kernel : decode (jx_mb 42) 27 = .ok (.getfield 26, 3))) rfl rfl rfl
  · exact fun d lv st M Q x z => jx_ev_st (jx_fok (by decide +kernel : decode (jx_mb 42) 30 = .ok (.iadd, 1))) rfl rfl rfl
  · exact fun d lv M Q a0 a1 hk => jx_ev_ci (jx_fok (by decide +kernel : decode (jx_mb 42) 31 = .ok (.invokevirtual 94, 3))) rfl (jx_ccV (As := [.int a0]) (rest := []) rfl rfl rfl hk rfl rfl) (by decide)
  · exact fun d lv st M Q => jx_k_goto (jx_fok (by decide +kernel : decode (jx_mb 42) 34 = .ok (.goto 5, 3))) rfl
  · exact fun d lv st M Q => jx_ev_st (jx_fok (by decide +kernel : decode (jx_mb 42) 37 = .ok (.bipush (-9), 2))) rfl rfl rfl
  · exact fun d lv M Q x => jx_k_ri (jx_fok (by decide +kernel : decode (jx_mb 42) 39 = .ok (.ireturn, 1))) rfl
theorem kX6_nextCode (d : Nat) (M : jx_M) (q : Int32 → jx_M → Prop) (a0 : Value) : jx_I d 42 [a0] M q ↔ jx_Ev d 42 0 [some a0] [] M (jx_qI q) := Iff.rfl
