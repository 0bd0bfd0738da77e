set_option maxRecDepth 100000 in
theorem eX7_office :
  (∀ (d : Nat) (st : List Value) (M : jx_M) (Q : jx_Po) (l1 l2 l3 l4 l5 l6 : Option Value) (x : Nat), jx_Ev d 42 0 [some (.ref x), l1, l2, l3, l4, l5, l6] st M Q ↔ jx_Ev d 42 1 [some (.ref x), l1, l2, l3, l4, l5, l6] (.ref x :: st) M Q) ∧
  (∀ (d : Nat) (lv : List (Option Value)) (st : List Value) (M : jx_M) (Q : jx_Po), jx_Ev d 42 1 lv st M Q ↔ jx_Ev d 42 2 lv (.int 0 :: st) M Q) ∧
  (∀ (d : Nat) (lv : List (Option Value)) (st : List Value) (M : jx_M) (Q : jx_Po) (x : Int32), jx_Ev d 42 2 lv (.int x :: .ref 0 :: st) M Q ↔ jx_Ev d 42 5 lv st (jx_up M 0 9 x) Q) ∧
  (∀ (d : Nat) (st : List Value) (M : jx_M) (Q : jx_Po) (l0 l2 l3 l4 l5 l6 : Option Value) (x : Int32), jx_Ev d 42 5 [l0, some (.int x), l2, l3, l4, l5, l6] st M Q ↔ jx_Ev d 42 6 [l0, some (.int x), l2, l3, l4, l5, l6] (.int x :: st) M Q) ∧
  (∀ (d : Nat) (lv : List (Option Value)) (M : jx_M) (Q : jx_Po) (a0 : Int32), jx_Ev (d + 1) 42 6 lv [.int a0] M Q ↔ jx_I d 79 [.int a0] M (fun x M => jx_Ev (d + 1) 42 9 lv (.int x :: []) M Q)) ∧
  (∀ (d : Nat) (lv : List (Option Value)) (st : List Value) (M : jx_M) (Q : jx_Po) (x : Int32), jx_Ev d 42 9 lv (.int x :: st) M Q ↔ (if x = 0 then jx_Ev d 42 12 lv st M Q else jx_Ev d 42 14 lv st M Q)) ∧
  (∀ (d : Nat) (lv : List (Option Value)) (st : List Value) (M : jx_M) (Q : jx_Po), jx_Ev d 42 12 lv st M Q ↔ jx_Ev d 42 13 lv (.int (-1) :: st) M Q) ∧
  (∀ (d : Nat) (lv : List (Option Value)) (M : jx_M) (Q : jx_Po) (x : Int32), jx_Ev d 42 13 lv [.int x] M Q ↔ Q [.int x] M) ∧
  (∀ (d : Nat) (st : List Value) (M : jx_M) (Q : jx_Po) (l0 l1 l3 l4 l5 l6 : Option Value) (x : Int32), jx_Ev d 42 14 [l0, l1, some (.int x), l3, l4, l5, l6] st M Q ↔ jx_Ev d 42 15 [l0, l1, some (.int x), l3, l4, l5, l6] (.int x :: st) M Q) ∧
  (∀ (d : Nat) (lv : List (Option Value)) (M : jx_M) (Q : jx_Po) (a0 : Int32), jx_Ev (d + 1) 42 15 lv [.int a0] M Q ↔ jx_I d 80 [.int a0] M (fun x M => jx_Ev (d + 1) 42 18 lv (.int x :: []) M Q)) ∧
  (∀ (d : Nat) (lv : List (Option Value)) (st : List Value) (M : jx_M) (Q : jx_Po) (x : Int32), jx_Ev d 42 18 lv (.int x :: st) M Q ↔ (if x = 0 then jx_Ev d 42 21 lv st M Q else jx_Ev d 42 24 lv st M Q)) ∧
  (∀ (d : Nat) (lv : List (Option Value)) (st : List Value) (M : jx_M) (Q : jx_Po), jx_Ev d 42 21 lv st M Q ↔ jx_Ev d 42 23 lv (.int (-2) :: st) M Q) ∧
  (∀ (d : Nat) (lv : List (Option Value)) (M : jx_M) (Q : jx_Po) (x : Int32), jx_Ev d 42 23 lv [.int x] M Q ↔ Q [.int x] M) ∧
  (∀ (d : Nat) (st : List Value) (M : jx_M) (Q : jx_Po) (l1 l2 l3 l4 l5 l6 : Option Value) (x : Nat), jx_Ev d 42 24 [some (.ref x), l1, l2, l3, l4, l5, l6] st M Q ↔ jx_Ev d 42 25 [some (.ref x), l1, l2, l3, l4, l5, l6] (.ref x :: st) M Q) ∧
  (∀ (d : Nat) (lv : List (Option Value)) (st : List Value) (M : jx_M) (Q : jx_Po), jx_Ev d 42 25 lv (.ref 0 :: st) M Q ↔ jx_Ev d 42 28 lv (.ref 1 :: st) M Q) ∧
  (∀ (d : Nat) (st : List Value) (M : jx_M) (Q : jx_Po) (l0 l2 l3 l4 l5 l6 : Option Value) (x : Int32), jx_Ev d 42 28 [l0, some (.int x), l2, l3, l4, l5, l6] st M Q ↔ jx_Ev d 42 29 [l0, some (.int x), l2, l3, l4, l5, l6] (.int x :: st) M Q) ∧
  (∀ (d : Nat) (lv : List (Option Value)) (st : List Value) (M : jx_M) (Q : jx_Po) (x : Int32), jx_Ev d 42 29 lv (.int x :: .ref 1 :: st) M Q ↔ (vp_in x 4 ∧ jx_Ev d 42 30 lv (.ref (jx_sp x) :: st) M Q)) ∧
  (∀ (d : Nat) (st : List Value) (M : jx_M) (Q : jx_Po) (l0 l1 l3 l4 l5 l6 : Option Value) (x : Int32), jx_Ev d 42 30 [l0, l1, some (.int x), l3, l4, l5, l6] st M Q ↔ jx_Ev d 42 31 [l0, l1, some (.int x), l3, l4, l5, l6] (.int x :: st) M Q) ∧
  (∀ (d : Nat) (st : List Value) (M : jx_M) (Q : jx_Po) (l0 l1 l2 l4 l5 l6 : Option Value) (x : Int32), jx_Ev d 42 31 [l0, l1, l2, some (.int x), l4, l5, l6] st M Q ↔ jx_Ev d 42 32 [l0, l1, l2, some (.int x), l4, l5, l6] (.int x :: st) M Q) ∧
  (∀ (d : Nat) (st : List Value) (M : jx_M) (Q : jx_Po) (l0 l1 l2 l3 l5 l6 : Option Value) (x : Int32), jx_Ev d 42 32 [l0, l1, l2, l3, some (.int x), l5, l6] st M Q ↔ jx_Ev d 42 34 [l0, l1, l2, l3, some (.int x), l5, l6] (.int x :: st) M Q) ∧
  (∀ (d : Nat) (lv : List (Option Value)) (M : jx_M) (Q : jx_Po) (a0 : Int32) (a1 : Int32) (a2 : Int32) (a3 : Nat) (hk : jx_cl a3 = 4), jx_Ev (d + 1) 42 34 lv [.int a0, .int a1, .int a2, .ref a3] M Q ↔ jx_I d 22 [.ref a3, .int a2, .int a1, .int a0] M (fun x M => jx_Ev (d + 1) 42 37 lv (.int x :: []) M Q)) ∧
  (∀ (d : Nat) (st : List Value) (M : jx_M) (Q : jx_Po) (l0 l1 l2 l3 l4 l5 l6 : Option Value) (x : Int32), jx_Ev d 42 37 [l0, l1, l2, l3, l4, l5, l6] (.int x :: st) M Q ↔ jx_Ev d 42 39 [l0, l1, l2, l3, l4, some (.int x), l6] st M Q) ∧
  (∀ (d : Nat) (st : List Value) (M : jx_M) (Q : jx_Po) (l0 l1 l2 l3 l4 l6 : Option Value) (x : Int32), jx_Ev d 42 39 [l0, l1, l2, l3, l4, some (.int x), l6] st M Q ↔ jx_Ev d 42 41 [l0, l1, l2, l3, l4, some (.int x), l6] (.int x :: st) M Q) ∧
  (∀ (d : Nat) (lv : List (Option Value)) (st : List Value) (M : jx_M) (Q : jx_Po) (x : Int32), jx_Ev d 42 41 lv (.int x :: st) M Q ↔ (if x = 0 then jx_Ev d 42 51 lv st M Q else jx_Ev d 42 44 lv st M Q)) ∧
  (∀ (d : Nat) (st : List Value) (M : jx_M) (Q : jx_Po) (l1 l2 l3 l4 l5 l6 : Option Value) (x : Nat), jx_Ev d 42 44 [some (.ref x), l1, l2, l3, l4, l5, l6] st M Q ↔ jx_Ev d 42 45 [some (.ref x), l1, l2, l3, l4, l5, l6] (.ref x :: st) M Q) ∧
  (∀ (d : Nat) (st : List Value) (M : jx_M) (Q : jx_Po) (l0 l1 l2 l3 l4 l6 : Option Value) (x : Int32), jx_Ev d 42 45 [l0, l1, l2, l3, l4, some (.int x), l6] st M Q ↔ jx_Ev d 42 47 [l0, l1, l2, l3, l4, some (.int x), l6] (.int x :: st) M Q) ∧
  (∀ (d : Nat) (lv : List (Option Value)) (M : jx_M) (Q : jx_Po) (a0 : Int32), jx_Ev (d + 1) 42 47 lv [.int a0, .ref 0] M Q ↔ jx_I d 82 [.ref 0, .int a0] M (fun x M => jx_Ev (d + 1) 42 50 lv (.int x :: []) M Q)) ∧
  (∀ (d : Nat) (lv : List (Option Value)) (M : jx_M) (Q : jx_Po) (x : Int32), jx_Ev d 42 50 lv [.int x] M Q ↔ Q [.int x] M) ∧
  (∀ (d : Nat) (st : List Value) (M : jx_M) (Q : jx_Po) (l1 l2 l3 l4 l5 l6 : Option Value) (x : Nat), jx_Ev d 42 51 [some (.ref x), l1, l2, l3, l4, l5, l6] st M Q ↔ jx_Ev d 42 52 [some (.ref x), l1, l2, l3, l4, l5, l6] (.ref x :: st) M Q) ∧
  (∀ (d : Nat) (lv : List (Option Value)) (st : List Value) (M : jx_M) (Q : jx_Po), jx_Ev d 42 52 lv (.ref 0 :: st) M Q ↔ jx_Ev d 42 55 lv (.ref 2 :: st) M Q) ∧
  (∀ (d : Nat) (st : List Value) (M : jx_M) (Q : jx_Po) (l1 l2 l3 l4 l5 l6 : Option Value) (x : Nat), jx_Ev d 42 55 [some (.ref x), l1, l2, l3, l4, l5, l6] st M Q ↔ jx_Ev d 42 56 [some (.ref x), l1, l2, l3, l4, l5, l6] (.ref x :: st) M Q) ∧
  (∀ (d : Nat) (lv : List (Option Value)) (st : List Value) (M : jx_M) (Q : jx_Po), jx_Ev d 42 56 lv (.ref 0 :: st) M Q ↔ jx_Ev d 42 59 lv (.ref 1 :: st) M Q) ∧
  (∀ (d : Nat) (st : List Value) (M : jx_M) (Q : jx_Po) (l0 l2 l3 l4 l5 l6 : Option Value) (x : Int32), jx_Ev d 42 59 [l0, some (.int x), l2, l3, l4, l5, l6] st M Q ↔ jx_Ev d 42 60 [l0, some (.int x), l2, l3, l4, l5, l6] (.int x :: st) M Q) ∧
  (∀ (d : Nat) (lv : List (Option Value)) (st : List Value) (M : jx_M) (Q : jx_Po) (x : Int32), jx_Ev d 42 60 lv (.int x :: .ref 1 :: st) M Q ↔ (vp_in x 4 ∧ jx_Ev d 42 61 lv (.ref (jx_sp x) :: st) M Q)) ∧
  (∀ (d : Nat) (st : List Value) (M : jx_M) (Q : jx_Po) (l0 l1 l2 l4 l5 l6 : Option Value) (x : Int32), jx_Ev d 42 61 [l0, l1, l2, some (.int x), l4, l5, l6] st M Q ↔ jx_Ev d 42 62 [l0, l1, l2, some (.int x), l4, l5, l6] (.int x :: st) M Q) ∧
  (∀ (d : Nat) (st : List Value) (M : jx_M) (Q : jx_Po) (l0 l1 l2 l3 l5 l6 : Option Value) (x : Int32), jx_Ev d 42 62 [l0, l1, l2, l3, some (.int x), l5, l6] st M Q ↔ jx_Ev d 42 64 [l0, l1, l2, l3, some (.int x), l5, l6] (.int x :: st) M Q) ∧
  (∀ (d : Nat) (st : List Value) (M : jx_M) (Q : jx_Po) (l1 l2 l3 l4 l5 l6 : Option Value) (x : Nat), jx_Ev d 42 64 [some (.ref x), l1, l2, l3, l4, l5, l6] st M Q ↔ jx_Ev d 42 65 [some (.ref x), l1, l2, l3, l4, l5, l6] (.ref x :: st) M Q) ∧
  (∀ (d : Nat) (lv : List (Option Value)) (st : List Value) (M : jx_M) (Q : jx_Po), jx_Ev d 42 65 lv (.ref 0 :: st) M Q ↔ jx_Ev d 42 68 lv (jx_rv (M 0 7) :: st) M Q) ∧
  (∀ (d : Nat) (lv : List (Option Value)) (M : jx_M) (Q : jx_Po) (a0 : Nat) (a1 : Int32) (a2 : Int32) (a3 : Nat), jx_Ev (d + 1) 42 68 lv [.ref a0, .int a1, .int a2, .ref a3, .ref 2] M Q ↔ jx_I d 32 [.ref 2, .ref a3, .int a2, .int a1, .ref a0] M (fun x M => jx_Ev (d + 1) 42 71 lv (.int x :: []) M Q)) ∧
  (∀ (d : Nat) (st : List Value) (M : jx_M) (Q : jx_Po) (l0 l1 l2 l3 l4 l5 l6 : Option Value) (x : Int32), jx_Ev d 42 71 [l0, l1, l2, l3, l4, l5, l6] (.int x :: st) M Q ↔ jx_Ev d 42 73 [l0, l1, l2, l3, l4, l5, some (.int x)] st M Q) ∧
  (∀ (d : Nat) (st : List Value) (M : jx_M) (Q : jx_Po) (l0 l1 l2 l3 l4 l5 : Option Value) (x : Int32), jx_Ev d 42 73 [l0, l1, l2, l3, l4, l5, some (.int x)] st M Q ↔ jx_Ev d 42 75 [l0, l1, l2, l3, l4, l5, some (.int x)] (.int x :: st) M Q) ∧
  (∀ (d : Nat) (lv : List (Option Value)) (st : List Value) (M : jx_M) (Q : jx_Po), jx_Ev d 42 75 lv st M Q ↔ jx_Ev d 42 77 lv (.int (-9) :: st) M Q) ∧
  (∀ (d : Nat) (lv : List (Option Value)) (st : List Value) (M : jx_M) (Q : jx_Po) (x z : Int32), jx_Ev d 42 77 lv (.int z :: .int x :: st) M Q ↔ (if x = z then jx_Ev d 42 86 lv st M Q else jx_Ev d 42 80 lv st M Q)) ∧
  (∀ (d : Nat) (lv : List (Option Value)) (st : List Value) (M : jx_M) (Q : jx_Po), jx_Ev d 42 80 lv st M Q ↔ jx_Ev d 42 82 lv (.int (-100) :: st) M Q) ∧
  (∀ (d : Nat) (st : List Value) (M : jx_M) (Q : jx_Po) (l0 l1 l2 l3 l4 l5 : Option Value) (x : Int32), jx_Ev d 42 82 [l0, l1, l2, l3, l4, l5, some (.int x)] st M Q ↔ jx_Ev d 42 84 [l0, l1, l2, l3, l4, l5, some (.int x)] (.int x :: st) M Q) ∧
  (∀ (d : Nat) (lv : List (Option Value)) (st : List Value) (M : jx_M) (Q : jx_Po) (x z : Int32), jx_Ev d 42 84 lv (.int z :: .int x :: st) M Q ↔ jx_Ev d 42 85 lv (.int (x - z) :: st) M Q) ∧
  (∀ (d : Nat) (lv : List (Option Value)) (M : jx_M) (Q : jx_Po) (x : Int32), jx_Ev d 42 85 lv [.int x] M Q ↔ Q [.int x] M) ∧
  (∀ (d : Nat) (st : List Value) (M : jx_M) (Q : jx_Po) (l1 l2 l3 l4 l5 l6 : Option Value) (x : Nat), jx_Ev d 42 86 [some (.ref x), l1, l2, l3, l4, l5, l6] st M Q ↔ jx_Ev d 42 87 [some (.ref x), l1, l2, l3, l4, l5, l6] (.ref x :: st) M Q) ∧
  (∀ (d : Nat) (lv : List (Option Value)) (M : jx_M) (Q : jx_Po), jx_Ev (d + 1) 42 87 lv [.ref 0] M Q ↔ jx_V d 43 [.ref 0] M (fun M => jx_Ev (d + 1) 42 90 lv [] M Q)) ∧
  (∀ (d : Nat) (st : List Value) (M : jx_M) (Q : jx_Po) (l1 l2 l3 l4 l5 l6 : Option Value) (x : Nat), jx_Ev d 42 90 [some (.ref x), l1, l2, l3, l4, l5, l6] st M Q ↔ jx_Ev d 42 91 [some (.ref x), l1, l2, l3, l4, l5, l6] (.ref x :: st) M Q) ∧
  (∀ (d : Nat) (lv : List (Option Value)) (st : List Value) (M : jx_M) (Q : jx_Po), jx_Ev d 42 91 lv (.ref 0 :: st) M Q ↔ jx_Ev d 42 94 lv (jx_rv (M 0 6) :: st) M Q) ∧
  (∀ (d : Nat) (lv : List (Option Value)) (st : List Value) (M : jx_M) (Q : jx_Po) (k : Nat) (hk : jx_cl k = 1), jx_Ev d 42 94 lv (.ref k :: st) M Q ↔ jx_Ev d 42 97 lv (.int (M k 6) :: st) M Q) ∧
  (∀ (d : Nat) (lv : List (Option Value)) (M : jx_M) (Q : jx_Po) (x : Int32), jx_Ev d 42 97 lv [.int x] M Q ↔ Q [.int x] M) := by
  refine ⟨?_, ?_, ?_, ?_, ?_, ?_, ?_, ?_, ?_, ?_, ?_, ?_, ?_, ?_, ?_, ?_, ?_, ?_, ?_, ?_, ?_, ?_, ?_, ?_, ?_, ?_, ?_, ?_, ?_, ?_, ?_, ?_, ?_, ?_, ?_, ?_, ?_, ?_, ?_, ?_, ?_, ?_, ?_, ?_, ?_, ?_, ?_, ?_, ?_, ?_, ?_, ?_, ?_⟩
  · exact fun d st M Q l1 l2 l3 l4 l5 l6 x => jx_ev_st (jx_fok (by decide +kernel : decode (jx_mb 42) 0 = .ok (.aload_n 0, 1))) rfl rfl rfl
  · exact fun d lv st M Q => jx_ev_st (jx_fok (by decide +kernel : decode (jx_mb 42) 1 = .ok (.iconst 0, 1))) rfl rfl rfl
  · exact fun d lv st M Q x => jx_k_pf0 (jx_fok (by decide +kernel : decode (jx_mb 42) 2 = .ok (.putfield 66, 3))) rfl rfl rfl
  · exact fun d st M Q l0 l2 l3 l4 l5 l6 x => jx_ev_st (jx_fok (by decide +kernel : decode (jx_mb 42) 5 = .ok (.iload_n 1, 1))) rfl rfl rfl
  · exact fun d lv M Q a0 => jx_ev_ci (jx_fok (by decide +kernel : decode (jx_mb 42) 6 = .ok (.invokestatic 70, 3))) rfl (jx_ccS (As := [.int a0]) (rest := []) rfl rfl rfl rfl rfl) (by decide)
  · exact fun d lv st M Q x => jx_k_b1n (jx_fok (by decide +kernel : decode (jx_mb 42) 9 = .ok (.ifCond .ne 5, 3))) rfl jx_hNe
  · exact fun d lv st M Q => jx_ev_st (jx_fok (by decide +kernel : decode (jx_mb 42) 12 = .ok (.iconst (-1), 1))) rfl rfl rfl
  · exact fun d lv M Q x => jx_k_ri (jx_fok (by decide +kernel : decode (jx_mb 42) 13 = .ok (.ireturn, 1))) rfl
  · exact fun d st M Q l0 l1 l3 l4 l5 l6 x => jx_ev_st (jx_fok (by decide +kernel : decode (jx_mb 42) 14 = .ok (.iload_n 2, 1))) rfl rfl rfl
  · exact fun d lv M Q a0 => jx_ev_ci (jx_fok (by decide +kernel : decode (jx_mb 42) 15 = .ok (.invokestatic 74, 3))) rfl (jx_ccS (As := [.int a0]) (rest := []) rfl rfl rfl rfl rfl) (by decide)
  · exact fun d lv st M Q x => jx_k_b1n (jx_fok (by decide +kernel : decode (jx_mb 42) 18 = .ok (.ifCond .ne 6, 3))) rfl jx_hNe
  · exact fun d lv st M Q => jx_ev_st (jx_fok (by decide +kernel : decode (jx_mb 42) 21 = .ok (.bipush (-2), 2))) rfl rfl rfl
  · exact fun d lv M Q x => jx_k_ri (jx_fok (by decide +kernel : decode (jx_mb 42) 23 = .ok (.ireturn, 1))) rfl
  · exact fun d st M Q l1 l2 l3 l4 l5 l6 x => jx_ev_st (jx_fok (by decide +kernel : decode (jx_mb 42) 24 = .ok (.aload_n 0, 1))) rfl rfl rfl
  · exact fun d lv st M Q => jx_k_gf (jx_fok (by decide +kernel : decode (jx_mb 42) 25 = .ok (.getfield 13, 3))) rfl rfl rfl
  · exact fun d st M Q l0 l2 l3 l4 l5 l6 x => jx_ev_st (jx_fok (by decide +kernel : decode (jx_mb 42) 28 = .ok (.iload_n 1, 1))) rfl rfl rfl
  · exact fun d lv st M Q x => jx_k_aa (jx_fok (by decide +kernel : decode (jx_mb 42) 29 = .ok (.aaload, 1)))
  · exact fun d st M Q l0 l1 l3 l4 l5 l6 x => jx_ev_st (jx_fok (by decide +kernel : decode (jx_mb 42) 30 = .ok (.iload_n 2, 1))) rfl rfl rfl
  · exact fun d st M Q l0 l1 l2 l4 l5 l6 x => jx_ev_st (jx_fok (by decide +kernel : decode (jx_mb 42) 31 = .ok (.iload_n 3, 1))) rfl rfl rfl
  · exact fun d st M Q l0 l1 l2 l3 l5 l6 x => jx_ev_st (jx_fok (by decide +kernel : decode (jx_mb 42) 32 = .ok (.iload 4, 2))) rfl rfl rfl
  · exact fun d lv M Q a0 a1 a2 a3 hk => jx_ev_ci (jx_fok (by decide +kernel : decode (jx_mb 42) 34 = .ok (.invokevirtual 77, 3))) rfl (jx_ccV (As := [.int a2, .int a1, .int a0]) (rest := []) rfl rfl rfl hk rfl rfl) (by decide)
  · exact fun d st M Q l0 l1 l2 l3 l4 l5 l6 x => jx_ev_st (jx_fok (by decide +kernel : decode (jx_mb 42) 37 = .ok (.istore 5, 2))) rfl rfl rfl
  · exact fun d st M Q l0 l1 l2 l3 l4 l6 x => jx_ev_st (jx_fok (by decide +kernel : decode (jx_mb 42) 39 = .ok (.iload 5, 2))) rfl rfl rfl
  · exact fun d lv st M Q x => jx_k_b1 (jx_fok (by decide +kernel : decode (jx_mb 42) 41 = .ok (.ifCond .eq 10, 3))) rfl jx_hEq
  · exact fun d st M Q l1 l2 l3 l4 l5 l6 x => jx_ev_st (jx_fok (by decide +kernel : decode (jx_mb 42) 44 = .ok (.aload_n 0, 1))) rfl rfl rfl
  · exact fun d st M Q l0 l1 l2 l3 l4 l6 x => jx_ev_st (jx_fok (by decide +kernel : decode (jx_mb 42) 45 = .ok (.iload 5, 2))) rfl rfl rfl
  · exact fun d lv M Q a0 => jx_ev_ci (jx_fok (by decide +kernel : decode (jx_mb 42) 47 = .ok (.invokevirtual 81, 3))) rfl (jx_ccV (As := [.int a0]) (rest := []) rfl rfl rfl rfl rfl rfl) (by decide)
  · exact fun d lv M Q x => jx_k_ri (jx_fok (by decide +kernel : decode (jx_mb 42) 50 = .ok (.ireturn, 1))) rfl
  · exact fun d st M Q l1 l2 l3 l4 l5 l6 x => jx_ev_st (jx_fok (by decide +kernel : decode (jx_mb 42) 51 = .ok (.aload_n 0, 1))) rfl rfl rfl
  · exact fun d lv st M Q => jx_k_gf (jx_fok (by decide +kernel : decode (jx_mb 42) 52 = .ok (.getfield 20, 3))) rfl rfl rfl
  · exact fun d st M Q l1 l2 l3 l4 l5 l6 x => jx_ev_st (jx_fok (by decide +kernel : decode (jx_mb 42) 55 = .ok (.aload_n 0, 1))) rfl rfl rfl
  · exact fun d lv st M Q => jx_k_gf (jx_fok (by decide +kernel : decode (jx_mb 42) 56 = .ok (.getfield 13, 3))) rfl rfl rfl
  · exact fun d st M Q l0 l2 l3 l4 l5 l6 x => jx_ev_st (jx_fok (by decide +kernel : decode (jx_mb 42) 59 = .ok (.iload_n 1, 1))) rfl rfl rfl
  · exact fun d lv st M Q x => jx_k_aa (jx_fok (by decide +kernel : decode (jx_mb 42) 60 = .ok (.aaload, 1)))
  · exact fun d st M Q l0 l1 l2 l4 l5 l6 x => jx_ev_st (jx_fok (by decide +kernel : decode (jx_mb 42) 61 = .ok (.iload_n 3, 1))) rfl rfl rfl
  · exact fun d st M Q l0 l1 l2 l3 l5 l6 x => jx_ev_st (jx_fok (by decide +kernel : decode (jx_mb 42) 62 = .ok (.iload 4, 2))) rfl rfl rfl
  · exact fun d st M Q l1 l2 l3 l4 l5 l6 x => jx_ev_st (jx_fok (by decide +kernel : decode (jx_mb 42) 64 = .ok (.aload_n 0, 1))) rfl rfl rfl
  · exact fun d lv st M Q => jx_k_gf (jx_fok (by decide +kernel : decode (jx_mb 42) 65 = .ok (.getfield 59, 3))) rfl rfl rfl
  · exact fun d lv M Q a0 a1 a2 a3 => jx_ev_ci (jx_fok (by decide +kernel : decode (jx_mb 42) 68 = .ok (.invokevirtual 85, 3))) rfl (jx_ccV (As := [.ref a3, .int a2, .int a1, .ref a0]) (rest := []) rfl rfl rfl rfl rfl rfl) (by decide)
  · exact fun d st M Q l0 l1 l2 l3 l4 l5 l6 x => jx_ev_st (jx_fok (by decide +kernel : decode (jx_mb 42) 71 = .ok (.istore 6, 2))) rfl rfl rfl
  · exact fun d st M Q l0 l1 l2 l3 l4 l5 x => jx_ev_st (jx_fok (by decide +kernel : decode (jx_mb 42) 73 = .ok (.iload 6, 2))) rfl rfl rfl
  · exact fun d lv st M Q => jx_ev_st (jx_fok (by decide +kernel : decode (jx_mb 42) 75 = .ok (.bipush (-9), 2))) rfl rfl rfl
  · exact fun d lv st M Q x z => jx_k_b2 (jx_fok (by decide +kernel : decode (jx_mb 42) 77 = .ok (.if_icmp .eq 9, 3))) rfl jx_hEq
  · exact fun d lv st M Q => jx_ev_st (jx_fok (by decide +kernel : decode (jx_mb 42) 80 = .ok (.bipush (-100), 2))) rfl rfl rfl
  · exact fun d st M Q l0 l1 l2 l3 l4 l5 x => jx_ev_st (jx_fok (by decide +kernel : decode (jx_mb 42) 82 = .ok (.iload 6, 2))) rfl rfl rfl
  · exact fun d lv st M Q x z => jx_ev_st (jx_fok (by decide +kernel : decode (jx_mb 42) 84 = .ok (.isub, 1))) rfl rfl rfl
  · exact fun d lv M Q x => jx_k_ri (jx_fok (by decide +kernel : decode (jx_mb 42) 85 = .ok (.ireturn, 1))) rfl
  · exact fun d st M Q l1 l2 l3 l4 l5 l6 x => jx_ev_st (jx_fok (by decide +kernel : decode (jx_mb 42) 86 = .ok (.aload_n 0, 1))) rfl rfl rfl
  · exact fun d lv M Q => jx_ev_cv (jx_fok (by decide +kernel : decode (jx_mb 42) 87 = .ok (.invokevirtual 89, 3))) rfl (jx_ccV (As := []) (rest := []) rfl rfl rfl rfl rfl rfl) rfl
  · exact fun d st M Q l1 l2 l3 l4 l5 l6 x => jx_ev_st (jx_fok (by decide +kernel : decode (jx_mb 42) 90 = .ok (.aload_n 0, 1))) rfl rfl rfl
  · exact fun d lv st M Q => jx_k_gf (jx_fok (by decide +kernel : decode (jx_mb 42) 91 = .ok (.getfield 55, 3))) rfl rfl rfl
  · exact fun d lv st M Q k hk => jx_k_gf (jx_fok (by decide +kernel : decode (jx_mb 42) 94 = .ok (.getfield 92, 3))) rfl hk rfl
  · exact fun d lv M Q x => jx_k_ri (jx_fok (by decide +kernel : decode (jx_mb 42) 97 = .ok (.ireturn, 1))) rfl
theorem kX7_office (d : Nat) (M : jx_M) (q : Int32 → jx_M → Prop) (a0 a1 a2 a3 a4 : Value) : jx_I d 42 [a0, a1, a2, a3, a4] M q ↔ jx_Ev d 42 0 [some a0, some a1, some a2, some a3, some a4, none, none] [] M (jx_qI q) := Iff.rfl
set_option maxRecDepth 100000 in
theorem eX7_takeDraft :
  (∀ (d : Nat) (st : List Value) (M : jx_M) (Q : jx_Po) (l1 : Option Value) (x : Nat), jx_Ev d 43 0 [some (.ref x), l1] st M Q ↔ jx_Ev d 43 1 [some (.ref x), l1] (.ref x :: st) M Q) ∧
  (∀ (d : Nat) (lv : List (Option Value)) (st : List Value) (M : jx_M) (Q : jx_Po), jx_Ev d 43 1 lv (.ref 0 :: st) M Q ↔ jx_Ev d 43 4 lv (jx_rv (M 0 6) :: st) M Q) ∧
  (∀ (d : Nat) (st : List Value) (M : jx_M) (Q : jx_Po) (l0 l1 : Option Value) (x : Nat), jx_Ev d 43 4 [l0, l1] (.ref x :: st) M Q ↔ jx_Ev d 43 5 [l0, some (.ref x)] st M Q) ∧
  (∀ (d : Nat) (st : List Value) (M : jx_M) (Q : jx_Po) (l1 : Option Value) (x : Nat), jx_Ev d 43 5 [some (.ref x), l1] st M Q ↔ jx_Ev d 43 6 [some (.ref x), l1] (.ref x :: st) M Q) ∧
  (∀ (d : Nat) (st : List Value) (M : jx_M) (Q : jx_Po) (l1 : Option Value) (x : Nat), jx_Ev d 43 6 [some (.ref x), l1] st M Q ↔ jx_Ev d 43 7 [some (.ref x), l1] (.ref x :: st) M Q) ∧
  (∀ (d : Nat) (lv : List (Option Value)) (st : List Value) (M : jx_M) (Q : jx_Po), jx_Ev d 43 7 lv (.ref 0 :: st) M Q ↔ jx_Ev d 43 10 lv (jx_rv (M 0 7) :: st) M Q) ∧
  (∀ (d : Nat) (lv : List (Option Value)) (st : List Value) (M : jx_M) (Q : jx_Po) (o : Nat) (ho : o < 56), jx_Ev d 43 10 lv (.ref o :: .ref 0 :: st) M Q ↔ jx_Ev d 43 13 lv st (jx_up M 0 6 (nI o)) Q) ∧
  (∀ (d : Nat) (st : List Value) (M : jx_M) (Q : jx_Po) (l1 : Option Value) (x : Nat), jx_Ev d 43 13 [some (.ref x), l1] st M Q ↔ jx_Ev d 43 14 [some (.ref x), l1] (.ref x :: st) M Q) ∧
  (∀ (d : Nat) (st : List Value) (M : jx_M) (Q : jx_Po) (l0 : Option Value) (x : Nat), jx_Ev d 43 14 [l0, some (.ref x)] st M Q ↔ jx_Ev d 43 15 [l0, some (.ref x)] (.ref x :: st) M Q) ∧
  (∀ (d : Nat) (lv : List (Option Value)) (st : List Value) (M : jx_M) (Q : jx_Po) (o : Nat) (ho : o < 56), jx_Ev d 43 15 lv (.ref o :: .ref 0 :: st) M Q ↔ jx_Ev d 43 18 lv st (jx_up M 0 7 (nI o)) Q) ∧
  (∀ (d : Nat) (st : List Value) (M : jx_M) (Q : jx_Po) (l1 : Option Value) (x : Nat), jx_Ev d 43 18 [some (.ref x), l1] st M Q ↔ jx_Ev d 43 19 [some (.ref x), l1] (.ref x :: st) M Q) ∧
  (∀ (d : Nat) (lv : List (Option Value)) (st : List Value) (M : jx_M) (Q : jx_Po), jx_Ev d 43 19 lv (.ref 0 :: st) M Q ↔ jx_Ev d 43 22 lv (.ref 3 :: st) M Q) ∧
  (∀ (d : Nat) (lv : List (Option Value)) (st : List Value) (M : jx_M) (Q : jx_Po), jx_Ev d 43 22 lv st M Q ↔ jx_Ev d 43 23 lv (.int 0 :: st) M Q) ∧
  (∀ (d : Nat) (lv : List (Option Value)) (st : List Value) (M : jx_M) (Q : jx_Po) (x : Int32), jx_Ev d 43 23 lv (.int x :: .ref 3 :: st) M Q ↔ jx_Ev d 43 26 lv st (jx_up M 3 3 x) Q) ∧
  (∀ (d : Nat) (lv : List (Option Value)) (M : jx_M) (Q : jx_Po), jx_Ev d 43 26 lv [] M Q ↔ Q [] M) := by
  refine ⟨?_, ?_, ?_, ?_, ?_, ?_, ?_, ?_, ?_, ?_, ?_, ?_, ?_, ?_, ?_⟩
  · exact fun d st M Q l1 x => jx_ev_st (jx_fok (by decide +kernel : decode (jx_mb 43) 0 = .ok (.aload_n 0, 1))) rfl rfl rfl
  · exact fun d lv st M Q => jx_k_gf (jx_fok (by decide +kernel : decode (jx_mb 43) 1 = .ok (.getfield 55, 3))) rfl rfl rfl
  · exact fun d st M Q l0 l1 x => jx_ev_st (jx_fok (by decide +kernel : decode (jx_mb 43) 4 = .ok (.astore_n 1, 1))) rfl rfl rfl
  · exact fun d st M Q l1 x => jx_ev_st (jx_fok (by decide +kernel : decode (jx_mb 43) 5 = .ok (.aload_n 0, 1))) rfl rfl rfl
  · exact fun d st M Q l1 x => jx_ev_st (jx_fok (by decide +kernel : decode (jx_mb 43) 6 = .ok (.aload_n 0, 1))) rfl rfl rfl
  · exact fun d lv st M Q => jx_k_gf (jx_fok (by decide +kernel : decode (jx_mb 43) 7 = .ok (.getfield 59, 3))) rfl rfl rfl
  · exact fun d lv st M Q o ho => jx_k_pf2 (jx_fok (by decide +kernel : decode (jx_mb 43) 10 = .ok (.putfield 55, 3))) rfl rfl rfl ho
  · exact fun d st M Q l1 x => jx_ev_st (jx_fok (by decide +kernel : decode (jx_mb 43) 13 = .ok (.aload_n 0, 1))) rfl rfl rfl
  · exact fun d st M Q l0 x => jx_ev_st (jx_fok (by decide +kernel : decode (jx_mb 43) 14 = .ok (.aload_n 1, 1))) rfl rfl rfl
  · exact fun d lv st M Q o ho => jx_k_pf2 (jx_fok (by decide +kernel : decode (jx_mb 43) 15 = .ok (.putfield 59, 3))) rfl rfl rfl ho
  · exact fun d st M Q l1 x => jx_ev_st (jx_fok (by decide +kernel : decode (jx_mb 43) 18 = .ok (.aload_n 0, 1))) rfl rfl rfl
  · exact fun d lv st M Q => jx_k_gf (jx_fok (by decide +kernel : decode (jx_mb 43) 19 = .ok (.getfield 27, 3))) rfl rfl rfl
  · exact fun d lv st M Q => jx_ev_st (jx_fok (by decide +kernel : decode (jx_mb 43) 22 = .ok (.iconst 0, 1))) rfl rfl rfl
  · exact fun d lv st M Q x => jx_k_pf0 (jx_fok (by decide +kernel : decode (jx_mb 43) 23 = .ok (.putfield 95, 3))) rfl rfl rfl
  · exact fun d lv M Q => jx_k_rv (jx_fok (by decide +kernel : decode (jx_mb 43) 26 = .ok (.return_, 1))) rfl
theorem kX7_takeDraft (d : Nat) (M : jx_M) (q : jx_M → Prop) (a0 : Value) : jx_V d 43 [a0] M q ↔ jx_Ev d 43 0 [some a0, none] [] M (jx_qV q) := Iff.rfl
set_option maxRecDepth 100000 in
theorem eX7_ofPerson :
  (∀ (d : Nat) (st : List Value) (M : jx_M) (Q : jx_Po) (l1 l2 : Option Value) (x : Nat), jx_Ev d 44 0 [some (.ref x), l1, l2] st M Q ↔ jx_Ev d 44 1 [some (.ref x), l1, l2] (.ref x :: st) M Q) ∧
  (∀ (d : Nat) (lv : List (Option Value)) (st : List Value) (M : jx_M) (Q : jx_Po), jx_Ev d 44 1 lv (.ref 0 :: st) M Q ↔ jx_Ev d 44 4 lv (jx_rv (M 0 6) :: st) M Q) ∧
  (∀ (d : Nat) (st : List Value) (M : jx_M) (Q : jx_Po) (l0 l2 : Option Value) (x : Int32), jx_Ev d 44 4 [l0, some (.int x), l2] st M Q ↔ jx_Ev d 44 5 [l0, some (.int x), l2] (.int x :: st) M Q) ∧
  (∀ (d : Nat) (lv : List (Option Value)) (M : jx_M) (Q : jx_Po) (a0 : Int32) (a1 : Nat) (hk : jx_cl a1 = 1), jx_Ev (d + 1) 44 5 lv [.int a0, .ref a1] M Q ↔ jx_I d 5 [.ref a1, .int a0] M (fun x M => jx_Ev (d + 1) 44 8 lv (.int x :: []) M Q)) ∧
  (∀ (d : Nat) (lv : List (Option Value)) (st : List Value) (M : jx_M) (Q : jx_Po) (x : Int32), jx_Ev d 44 8 lv (.int x :: st) M Q ↔ (if x = 0 then jx_Ev d 44 11 lv st M Q else jx_Ev d 44 13 lv st M Q)) ∧
  (∀ (d : Nat) (lv : List (Option Value)) (st : List Value) (M : jx_M) (Q : jx_Po), jx_Ev d 44 11 lv st M Q ↔ jx_Ev d 44 12 lv (.int (-1) :: st) M Q) ∧
  (∀ (d : Nat) (lv : List (Option Value)) (M : jx_M) (Q : jx_Po) (x : Int32), jx_Ev d 44 12 lv [.int x] M Q ↔ Q [.int x] M) ∧
  (∀ (d : Nat) (st : List Value) (M : jx_M) (Q : jx_Po) (l0 l1 : Option Value) (x : Int32), jx_Ev d 44 13 [l0, l1, some (.int x)] st M Q ↔ jx_Ev d 44 14 [l0, l1, some (.int x)] (.int x :: st) M Q) ∧
  (∀ (d : Nat) (lv : List (Option Value)) (st : List Value) (M : jx_M) (Q : jx_Po) (x : Int32), jx_Ev d 44 14 lv (.int x :: st) M Q ↔ (if x = 0 then jx_Ev d 44 40 lv st M Q else if x = 1 then jx_Ev d 44 50 lv st M Q else if x = 2 then jx_Ev d 44 60 lv st M Q else jx_Ev d 44 69 lv st M Q)) ∧
  (∀ (d : Nat) (st : List Value) (M : jx_M) (Q : jx_Po) (l1 l2 : Option Value) (x : Nat), jx_Ev d 44 40 [some (.ref x), l1, l2] st M Q ↔ jx_Ev d 44 41 [some (.ref x), l1, l2] (.ref x :: st) M Q) ∧
  (∀ (d : Nat) (lv : List (Option Value)) (st : List Value) (M : jx_M) (Q : jx_Po), jx_Ev d 44 41 lv (.ref 0 :: st) M Q ↔ jx_Ev d 44 44 lv (jx_rv (M 0 6) :: st) M Q) ∧
  (∀ (d : Nat) (lv : List (Option Value)) (st : List Value) (M : jx_M) (Q : jx_Po) (k : Nat) (hk : jx_cl k = 1), jx_Ev d 44 44 lv (.ref k :: st) M Q ↔ jx_Ev d 44 47 lv (.ref (k + 1) :: st) M Q) ∧
  (∀ (d : Nat) (st : List Value) (M : jx_M) (Q : jx_Po) (l0 l2 : Option Value) (x : Int32), jx_Ev d 44 47 [l0, some (.int x), l2] st M Q ↔ jx_Ev d 44 48 [l0, some (.int x), l2] (.int x :: st) M Q) ∧
  (∀ (d : Nat) (lv : List (Option Value)) (st : List Value) (M : jx_M) (Q : jx_Po) (x : Int32) (a : Nat) (ha : jx_cl a = 9), jx_Ev d 44 48 lv (.int x :: .ref a :: st) M Q ↔ (vp_in x (jx_sz a) ∧ jx_Ev d 44 49 lv (.int (M a x.toNatClampNeg) :: st) M Q)) ∧
  (∀ (d : Nat) (lv : List (Option Value)) (M : jx_M) (Q : jx_Po) (x : Int32), jx_Ev d 44 49 lv [.int x] M Q ↔ Q [.int x] M) ∧
  (∀ (d : Nat) (st : List Value) (M : jx_M) (Q : jx_Po) (l1 l2 : Option Value) (x : Nat), jx_Ev d 44 50 [some (.ref x), l1, l2] st M Q ↔ jx_Ev d 44 51 [some (.ref x), l1, l2] (.ref x :: st) M Q) ∧
  (∀ (d : Nat) (lv : List (Option Value)) (st : List Value) (M : jx_M) (Q : jx_Po), jx_Ev d 44 51 lv (.ref 0 :: st) M Q ↔ jx_Ev d 44 54 lv (jx_rv (M 0 6) :: st) M Q) ∧
  (∀ (d : Nat) (lv : List (Option Value)) (st : List Value) (M : jx_M) (Q : jx_Po) (k : Nat) (hk : jx_cl k = 1), jx_Ev d 44 54 lv (.ref k :: st) M Q ↔ jx_Ev d 44 57 lv (.ref (k + 2) :: st) M Q) ∧
  (∀ (d : Nat) (st : List Value) (M : jx_M) (Q : jx_Po) (l0 l2 : Option Value) (x : Int32), jx_Ev d 44 57 [l0, some (.int x), l2] st M Q ↔ jx_Ev d 44 58 [l0, some (.int x), l2] (.int x :: st) M Q) ∧
  (∀ (d : Nat) (lv : List (Option Value)) (st : List Value) (M : jx_M) (Q : jx_Po) (x : Int32) (a : Nat) (ha : jx_cl a = 9), jx_Ev d 44 58 lv (.int x :: .ref a :: st) M Q ↔ (vp_in x (jx_sz a) ∧ jx_Ev d 44 59 lv (.int (M a x.toNatClampNeg) :: st) M Q)) ∧
  (∀ (d : Nat) (lv : List (Option Value)) (M : jx_M) (Q : jx_Po) (x : Int32), jx_Ev d 44 59 lv [.int x] M Q ↔ Q [.int x] M) ∧
  (∀ (d : Nat) (st : List Value) (M : jx_M) (Q : jx_Po) (l1 l2 : Option Value) (x : Nat), jx_Ev d 44 60 [some (.ref x), l1, l2] st M Q ↔ jx_Ev d 44 61 [some (.ref x), l1, l2] (.ref x :: st) M Q) ∧
  (∀ (d : Nat) (lv : List (Option Value)) (st : List Value) (M : jx_M) (Q : jx_Po), jx_Ev d 44 61 lv (.ref 0 :: st) M Q ↔ jx_Ev d 44 64 lv (jx_rv (M 0 6) :: st) M Q) ∧
  (∀ (d : Nat) (st : List Value) (M : jx_M) (Q : jx_Po) (l0 l2 : Option Value) (x : Int32), jx_Ev d 44 64 [l0, some (.int x), l2] st M Q ↔ jx_Ev d 44 65 [l0, some (.int x), l2] (.int x :: st) M Q) ∧
  (∀ (d : Nat) (lv : List (Option Value)) (M : jx_M) (Q : jx_Po) (a0 : Int32) (a1 : Nat) (hk : jx_cl a1 = 1), jx_Ev (d + 1) 44 65 lv [.int a0, .ref a1] M Q ↔ jx_I d 8 [.ref a1, .int a0] M (fun x M => jx_Ev (d + 1) 44 68 lv (.int x :: []) M Q)) ∧
  (∀ (d : Nat) (lv : List (Option Value)) (M : jx_M) (Q : jx_Po) (x : Int32), jx_Ev d 44 68 lv [.int x] M Q ↔ Q [.int x] M) ∧
  (∀ (d : Nat) (lv : List (Option Value)) (st : List Value) (M : jx_M) (Q : jx_Po), jx_Ev d 44 69 lv st M Q ↔ jx_Ev d 44 71 lv (.int (-2) :: st) M Q) ∧
  (∀ (d : Nat) (lv : List (Option Value)) (M : jx_M) (Q : jx_Po) (x : Int32), jx_Ev d 44 71 lv [.int x] M Q ↔ Q [.int x] M) := by
  refine ⟨?_, ?_, ?_, ?_, ?_, ?_, ?_, ?_, ?_, ?_, ?_, ?_, ?_, ?_, ?_, ?_, ?_, ?_, ?_, ?_, ?_, ?_, ?_, ?_, ?_, ?_, ?_, ?_⟩
  · exact fun d st M Q l1 l2 x => jx_ev_st (jx_fok (by decide +kernel : decode (jx_mb 44) 0 = .ok (.aload_n 0, 1))) rfl rfl rfl
  · exact fun d lv st M Q => jx_k_gf (jx_fok (by decide +kernel : decode (jx_mb 44) 1 = .ok (.getfield 55, 3))) rfl rfl rfl
  · exact fun d st M Q l0 l2 x => jx_ev_st (jx_fok (by decide +kernel : decode (jx_mb 44) 4 = .ok (.iload_n 1, 1))) rfl rfl rfl
  · exact fun d lv M Q a0 a1 hk => jx_ev_ci (jx_fok (by decide +kernel : decode (jx_mb 44) 5 = .ok (.invokevirtual 98, 3))) rfl (jx_ccV (As := [.int a0]) (rest := []) rfl rfl rfl hk rfl rfl) (by decide)
  · exact fun d lv st M Q x => jx_k_b1n (jx_fok (by decide +kernel : decode (jx_mb 44) 8 = .ok (.ifCond .ne 5, 3))) rfl jx_hNe
  · exact fun d lv st M Q => jx_ev_st (jx_fok (by decide +kernel : decode (jx_mb 44) 11 = .ok (.iconst (-1), 1))) rfl rfl rfl
  · exact fun d lv M Q x => jx_k_ri (jx_fok (by decide +kernel : decode (jx_mb 44) 12 = .ok (.ireturn, 1))) rfl
  · exact fun d st M Q l0 l1 x => jx_ev_st (jx_fok (by decide +kernel : decode (jx_mb 44) 13 = .ok (.iload_n 2, 1))) rfl rfl rfl
  · intro d lv st M Q x
    by_cases h0 : x = 0
    · subst h0; rw [if_pos rfl]; exact jx_k_tsi (jx_fok (by decide +kernel : decode (jx_mb 44) 14 = .ok (.tableswitch 55 0 2 #[26, 36, 46], 26))) (by decide) rfl rfl
    rw [if_neg h0]
    by_cases h1 : x = 1
    · subst h1; rw [if_pos rfl]; exact jx_k_tsi (jx_fok (by decide +kernel : decode (jx_mb 44) 14 = .ok (.tableswitch 55 0 2 #[26, 36, 46], 26))) (by decide) rfl rfl
    rw [if_neg h1]
    by_cases h2 : x = 2
    · subst h2; rw [if_pos rfl]; exact jx_k_tsi (jx_fok (by decide +kernel : decode (jx_mb 44) 14 = .ok (.tableswitch 55 0 2 #[26, 36, 46], 26))) (by decide) rfl rfl
    rw [if_neg h2]
    exact jx_k_tso (jx_fok (by decide +kernel : decode (jx_mb 44) 14 = .ok (.tableswitch 55 0 2 #[26, 36, 46], 26))) (by have e := jx_tsx3 (x := x) h0 h1 h2; omega) rfl
  · exact fun d st M Q l1 l2 x => jx_ev_st (jx_fok (by decide +kernel : decode (jx_mb 44) 40 = .ok (.aload_n 0, 1))) rfl rfl rfl
  · exact fun d lv st M Q => jx_k_gf (jx_fok (by decide +kernel : decode (jx_mb 44) 41 = .ok (.getfield 55, 3))) rfl rfl rfl
  · exact fun d lv st M Q k hk => jx_k_gf (jx_fok (by decide +kernel : decode (jx_mb 44) 44 = .ok (.getfield 101, 3))) rfl hk rfl
  · exact fun d st M Q l0 l2 x => jx_ev_st (jx_fok (by decide +kernel : decode (jx_mb 44) 47 = .ok (.iload_n 1, 1))) rfl rfl rfl
  · exact fun d lv st M Q x a ha => jx_k_al (jx_fok (by decide +kernel : decode (jx_mb 44) 48 = .ok (.iaload, 1))) ha
  · exact fun d lv M Q x => jx_k_ri (jx_fok (by decide +kernel : decode (jx_mb 44) 49 = .ok (.ireturn, 1))) rfl
  · exact fun d st M Q l1 l2 x => jx_ev_st (jx_fok (by decide +kernel : decode (jx_mb 44) 50 = .ok (.aload_n 0, 1))) rfl rfl rfl
  · exact fun d lv st M Q => jx_k_gf (jx_fok (by decide +kernel : decode (jx_mb 44) 51 = .ok (.getfield 55, 3))) rfl rfl rfl
  · exact fun d lv st M Q k hk => jx_k_gf (jx_fok (by decide +kernel : decode (jx_mb 44) 54 = .ok (.getfield 105, 3))) rfl hk rfl
  · exact fun d st M Q l0 l2 x => jx_ev_st (jx_fok (by decide +kernel : decode (jx_mb 44) 57 = .ok (.iload_n 1, 1))) rfl rfl rfl
  · exact fun d lv st M Q x a ha => jx_k_al (jx_fok (by decide +kernel : decode (jx_mb 44) 58 = .ok (.iaload, 1))) ha
  · exact fun d lv M Q x => jx_k_ri (jx_fok (by decide +kernel : decode (jx_mb 44) 59 = .ok (.ireturn, 1))) rfl
  · exact fun d st M Q l1 l2 x => jx_ev_st (jx_fok (by decide +kernel : decode (jx_mb 44) 60 = .ok (.aload_n 0, 1))) rfl rfl rfl
  · exact fun d lv st M Q => jx_k_gf (jx_fok (by decide +kernel : decode (jx_mb 44) 61 = .ok (.getfield 55, 3))) rfl rfl rfl
  · exact fun d st M Q l0 l2 x => jx_ev_st (jx_fok (by decide +kernel : decode (jx_mb 44) 64 = .ok (.iload_n 1, 1))) rfl rfl rfl
  · exact fun d lv M Q a0 a1 hk => jx_ev_ci (jx_fok (by decide +kernel : decode (jx_mb 44) 65 = .ok (.invokevirtual 108, 3))) rfl (jx_ccV (As := [.int a0]) (rest := []) rfl rfl rfl hk rfl rfl) (by decide)
  · exact fun d lv M Q x => jx_k_ri (jx_fok (by decide +kernel : decode (jx_mb 44) 68 = .ok (.ireturn, 1))) rfl
  · exact fun d lv st M Q => jx_ev_st (jx_fok (by decide +kernel : decode (jx_mb 44) 69 = .ok (.bipush (-2), 2))) rfl rfl rfl
  · exact fun d lv M Q x => jx_k_ri (jx_fok (by decide +kernel : decode (jx_mb 44) 71 = .ok (.ireturn, 1))) rfl
theorem kX7_ofPerson (d : Nat) (M : jx_M) (q : Int32 → jx_M → Prop) (a0 a1 a2 : Value) : jx_I d 44 [a0, a1, a2] M q ↔ jx_Ev d 44 0 [some a0, some a1, some a2] [] M (jx_qI q) := Iff.rfl
set_option maxRecDepth 100000 in
theorem eX7_ofClap :
  (∀ (d : Nat) (st : List Value) (M : jx_M) (Q : jx_Po) (l1 l2 : Option Value) (x : Nat), jx_Ev d 45 0 [some (.ref x), l1, l2] st M Q ↔ jx_Ev d 45 1 [some (.ref x), l1, l2] (.ref x :: st) M Q) ∧
  (∀ (d : Nat) (lv : List (Option Value)) (st : List Value) (M : jx_M) (Q : jx_Po), jx_Ev d 45 1 lv (.ref 0 :: st) M Q ↔ jx_Ev d 45 4 lv (jx_rv (M 0 6) :: st) M Q) ∧
  (∀ (d : Nat) (st : List Value) (M : jx_M) (Q : jx_Po) (l0 l2 : Option Value) (x : Int32), jx_Ev d 45 4 [l0, some (.int x), l2] st M Q ↔ jx_Ev d 45 5 [l0, some (.int x), l2] (.int x :: st) M Q) ∧
  (∀ (d : Nat) (lv : List (Option Value)) (M : jx_M) (Q : jx_Po) (a0 : Int32) (a1 : Nat) (hk : jx_cl a1 = 1), jx_Ev (d + 1) 45 5 lv [.int a0, .ref a1] M Q ↔ jx_I d 6 [.ref a1, .int a0] M (fun x M => jx_Ev (d + 1) 45 8 lv (.int x :: []) M Q)) ∧
  (∀ (d : Nat) (lv : List (Option Value)) (st : List Value) (M : jx_M) (Q : jx_Po) (x : Int32), jx_Ev d 45 8 lv (.int x :: st) M Q ↔ (if x = 0 then jx_Ev d 45 11 lv st M Q else jx_Ev d 45 13 lv st M Q)) ∧
  (∀ (d : Nat) (lv : List (Option Value)) (st : List Value) (M : jx_M) (Q : jx_Po), jx_Ev d 45 11 lv st M Q ↔ jx_Ev d 45 12 lv (.int (-1) :: st) M Q) ∧
  (∀ (d : Nat) (lv : List (Option Value)) (M : jx_M) (Q : jx_Po) (x : Int32), jx_Ev d 45 12 lv [.int x] M Q ↔ Q [.int x] M) ∧
  (∀ (d : Nat) (st : List Value) (M : jx_M) (Q : jx_Po) (l0 l1 : Option Value) (x : Int32), jx_Ev d 45 13 [l0, l1, some (.int x)] st M Q ↔ jx_Ev d 45 14 [l0, l1, some (.int x)] (.int x :: st) M Q) ∧
  (∀ (d : Nat) (lv : List (Option Value)) (st : List Value) (M : jx_M) (Q : jx_Po) (x : Int32), jx_Ev d 45 14 lv (.int x :: st) M Q ↔ (if x = 0 then jx_Ev d 45 40 lv st M Q else if x = 1 then jx_Ev d 45 50 lv st M Q else if x = 2 then jx_Ev d 45 60 lv st M Q else jx_Ev d 45 70 lv st M Q)) ∧
  (∀ (d : Nat) (st : List Value) (M : jx_M) (Q : jx_Po) (l1 l2 : Option Value) (x : Nat), jx_Ev d 45 40 [some (.ref x), l1, l2] st M Q ↔ jx_Ev d 45 41 [some (.ref x), l1, l2] (.ref x :: st) M Q) ∧
  (∀ (d : Nat) (lv : List (Option Value)) (st : List Value) (M : jx_M) (Q : jx_Po), jx_Ev d 45 41 lv (.ref 0 :: st) M Q ↔ jx_Ev d 45 44 lv (jx_rv (M 0 6) :: st) M Q) ∧
  (∀ (d : Nat) (lv : List (Option Value)) (st : List Value) (M : jx_M) (Q : jx_Po) (k : Nat) (hk : jx_cl k = 1), jx_Ev d 45 44 lv (.ref k :: st) M Q ↔ jx_Ev d 45 47 lv (.ref (k + 3) :: st) M Q) ∧
  (∀ (d : Nat) (st : List Value) (M : jx_M) (Q : jx_Po) (l0 l2 : Option Value) (x : Int32), jx_Ev d 45 47 [l0, some (.int x), l2] st M Q ↔ jx_Ev d 45 48 [l0, some (.int x), l2] (.int x :: st) M Q) ∧
  (∀ (d : Nat) (lv : List (Option Value)) (st : List Value) (M : jx_M) (Q : jx_Po) (x : Int32) (a : Nat) (ha : jx_cl a = 9), jx_Ev d 45 48 lv (.int x :: .ref a :: st) M Q ↔ (vp_in x (jx_sz a) ∧ jx_Ev d 45 49 lv (.int (M a x.toNatClampNeg) :: st) M Q)) ∧
  (∀ (d : Nat) (lv : List (Option Value)) (M : jx_M) (Q : jx_Po) (x : Int32), jx_Ev d 45 49 lv [.int x] M Q ↔ Q [.int x] M) ∧
  (∀ (d : Nat) (st : List Value) (M : jx_M) (Q : jx_Po) (l1 l2 : Option Value) (x : Nat), jx_Ev d 45 50 [some (.ref x), l1, l2] st M Q ↔ jx_Ev d 45 51 [some (.ref x), l1, l2] (.ref x :: st) M Q) ∧
  (∀ (d : Nat) (lv : List (Option Value)) (st : List Value) (M : jx_M) (Q : jx_Po), jx_Ev d 45 51 lv (.ref 0 :: st) M Q ↔ jx_Ev d 45 54 lv (jx_rv (M 0 6) :: st) M Q) ∧
  (∀ (d : Nat) (lv : List (Option Value)) (st : List Value) (M : jx_M) (Q : jx_Po) (k : Nat) (hk : jx_cl k = 1), jx_Ev d 45 54 lv (.ref k :: st) M Q ↔ jx_Ev d 45 57 lv (.ref (k + 4) :: st) M Q) ∧
  (∀ (d : Nat) (st : List Value) (M : jx_M) (Q : jx_Po) (l0 l2 : Option Value) (x : Int32), jx_Ev d 45 57 [l0, some (.int x), l2] st M Q ↔ jx_Ev d 45 58 [l0, some (.int x), l2] (.int x :: st) M Q) ∧
  (∀ (d : Nat) (lv : List (Option Value)) (st : List Value) (M : jx_M) (Q : jx_Po) (x : Int32) (a : Nat) (ha : jx_cl a = 9), jx_Ev d 45 58 lv (.int x :: .ref a :: st) M Q ↔ (vp_in x (jx_sz a) ∧ jx_Ev d 45 59 lv (.int (M a x.toNatClampNeg) :: st) M Q)) ∧
  (∀ (d : Nat) (lv : List (Option Value)) (M : jx_M) (Q : jx_Po) (x : Int32), jx_Ev d 45 59 lv [.int x] M Q ↔ Q [.int x] M) ∧
  (∀ (d : Nat) (st : List Value) (M : jx_M) (Q : jx_Po) (l1 l2 : Option Value) (x : Nat), jx_Ev d 45 60 [some (.ref x), l1, l2] st M Q ↔ jx_Ev d 45 61 [some (.ref x), l1, l2] (.ref x :: st) M Q) ∧
  (∀ (d : Nat) (lv : List (Option Value)) (st : List Value) (M : jx_M) (Q : jx_Po), jx_Ev d 45 61 lv (.ref 0 :: st) M Q ↔ jx_Ev d 45 64 lv (jx_rv (M 0 6) :: st) M Q) ∧
  (∀ (d : Nat) (lv : List (Option Value)) (st : List Value) (M : jx_M) (Q : jx_Po) (k : Nat) (hk : jx_cl k = 1), jx_Ev d 45 64 lv (.ref k :: st) M Q ↔ jx_Ev d 45 67 lv (.ref (k + 5) :: st) M Q) ∧
  (∀ (d : Nat) (st : List Value) (M : jx_M) (Q : jx_Po) (l0 l2 : Option Value) (x : Int32), jx_Ev d 45 67 [l0, some (.int x), l2] st M Q ↔ jx_Ev d 45 68 [l0, some (.int x), l2] (.int x :: st) M Q) ∧
  (∀ (d : Nat) (lv : List (Option Value)) (st : List Value) (M : jx_M) (Q : jx_Po) (x : Int32) (a : Nat) (ha : jx_cl a = 9), jx_Ev d 45 68 lv (.int x :: .ref a :: st) M Q ↔ (vp_in x (jx_sz a) ∧ jx_Ev d 45 69 lv (.int (M a x.toNatClampNeg) :: st) M Q)) ∧
  (∀ (d : Nat) (lv : List (Option Value)) (M : jx_M) (Q : jx_Po) (x : Int32), jx_Ev d 45 69 lv [.int x] M Q ↔ Q [.int x] M) ∧
  (∀ (d : Nat) (lv : List (Option Value)) (st : List Value) (M : jx_M) (Q : jx_Po), jx_Ev d 45 70 lv st M Q ↔ jx_Ev d 45 72 lv (.int (-2) :: st) M Q) ∧
  (∀ (d : Nat) (lv : List (Option Value)) (M : jx_M) (Q : jx_Po) (x : Int32), jx_Ev d 45 72 lv [.int x] M Q ↔ Q [.int x] M) := by
  refine ⟨?_, ?_, ?_, ?_, ?_, ?_, ?_, ?_, ?_, ?_, ?_, ?_, ?_, ?_, ?_, ?_, ?_, ?_, ?_, ?_, ?_, ?_, ?_, ?_, ?_, ?_, ?_, ?_, ?_⟩
  · exact fun d st M Q l1 l2 x => jx_ev_st (jx_fok (by decide +kernel : decode (jx_mb 45) 0 = .ok (.aload_n 0, 1))) rfl rfl rfl
  · exact fun d lv st M Q => jx_k_gf (jx_fok (by decide +kernel : decode (jx_mb 45) 1 = .ok (.getfield 55, 3))) rfl rfl rfl
  · exact fun d st M Q l0 l2 x => jx_ev_st (jx_fok (by decide +kernel : decode (jx_mb 45) 4 = .ok (.iload_n 1, 1))) rfl rfl rfl
  · exact fun d lv M Q a0 a1 hk => jx_ev_ci (jx_fok (by decide +kernel : decode (jx_mb 45) 5 = .ok (.invokevirtual 111, 3))) rfl (jx_ccV (As := [.int a0]) (rest := []) rfl rfl rfl hk rfl rfl) (by decide)
  · exact fun d lv st M Q x => jx_k_b1n (jx_fok (by decide +kernel : decode (jx_mb 45) 8 = .ok (.ifCond .ne 5, 3))) rfl jx_hNe
  · exact fun d lv st M Q => jx_ev_st (jx_fok (by decide +kernel : decode (jx_mb 45) 11 = .ok (.iconst (-1), 1))) rfl rfl rfl
  · exact fun d lv M Q x => jx_k_ri (jx_fok (by decide +kernel : decode (jx_mb 45) 12 = .ok (.ireturn, 1))) rfl
  · exact fun d st M Q l0 l1 x => jx_ev_st (jx_fok (by decide +kernel : decode (jx_mb 45) 13 = .ok (.iload_n 2, 1))) rfl rfl rfl
  · intro d lv st M Q x
    by_cases h0 : x = 0
    · subst h0; rw [if_pos rfl]; exact jx_k_tsi (jx_fok (by decide +kernel : decode (jx_mb 45) 14 = .ok (.tableswitch 56 0 2 #[26, 36, 46], 26))) (by decide) rfl rfl
    rw [if_neg h0]
    by_cases h1 : x = 1
    · subst h1; rw [if_pos rfl]; exact jx_k_tsi (jx_fok (by decide +kernel : decode (jx_mb 45) 14 = .ok (.tableswitch 56 0 2 #[26, 36, 46], 26))) (by decide) rfl rfl
    rw [if_neg h1]
    by_cases h2 : x = 2
    · subst h2; rw [if_pos rfl]; exact jx_k_tsi (jx_fok (by decide +kernel : decode (jx_mb 45) 14 = .ok (.tableswitch 56 0 2 #[26, 36, 46], 26))) (by decide) rfl rfl
    rw [if_neg h2]
    exact jx_k_tso (jx_fok (by decide +kernel : decode (jx_mb 45) 14 = .ok (.tableswitch 56 0 2 #[26, 36, 46], 26))) (by have e := jx_tsx3 (x := x) h0 h1 h2; omega) rfl
  · exact fun d st M Q l1 l2 x => jx_ev_st (jx_fok (by decide +kernel : decode (jx_mb 45) 40 = .ok (.aload_n 0, 1))) rfl rfl rfl
  · exact fun d lv st M Q => jx_k_gf (jx_fok (by decide +kernel : decode (jx_mb 45) 41 = .ok (.getfield 55, 3))) rfl rfl rfl
  · exact fun d lv st M Q k hk => jx_k_gf (jx_fok (by decide +kernel : decode (jx_mb 45) 44 = .ok (.getfield 114, 3))) rfl hk rfl
  · exact fun d st M Q l0 l2 x => jx_ev_st (jx_fok (by decide +kernel : decode (jx_mb 45) 47 = .ok (.iload_n 1, 1))) rfl rfl rfl
  · exact fun d lv st M Q x a ha => jx_k_al (jx_fok (by decide +kernel : decode (jx_mb 45) 48 = .ok (.iaload, 1))) ha
  · exact fun d lv M Q x => jx_k_ri (jx_fok (by decide +kernel : decode (jx_mb 45) 49 = .ok (.ireturn, 1))) rfl
  · exact fun d st M Q l1 l2 x => jx_ev_st (jx_fok (by decide +kernel : decode (jx_mb 45) 50 = .ok (.aload_n 0, 1))) rfl rfl rfl
  · exact fun d lv st M Q => jx_k_gf (jx_fok (by decide +kernel : decode (jx_mb 45) 51 = .ok (.getfield 55, 3))) rfl rfl rfl
  · exact fun d lv st M Q k hk => jx_k_gf (jx_fok (by decide +kernel : decode (jx_mb 45) 54 = .ok (.getfield 117, 3))) rfl hk rfl
  · exact fun d st M Q l0 l2 x => jx_ev_st (jx_fok (by decide +kernel : decode (jx_mb 45) 57 = .ok (.iload_n 1, 1))) rfl rfl rfl
  · exact fun d lv st M Q x a ha => jx_k_al (jx_fok (by decide +kernel : decode (jx_mb 45) 58 = .ok (.iaload, 1))) ha
  · exact fun d lv M Q x => jx_k_ri (jx_fok (by decide +kernel : decode (jx_mb 45) 59 = .ok (.ireturn, 1))) rfl
  · exact fun d st M Q l1 l2 x => jx_ev_st (jx_fok (by decide +kernel : decode (jx_mb 45) 60 = .ok (.aload_n 0, 1))) rfl rfl rfl
  · exact fun d lv st M Q => jx_k_gf (jx_fok (by decide +kernel : decode (jx_mb 45) 61 = .ok (.getfield 55, 3))) rfl rfl rfl
  · exact fun d lv st M Q k hk => jx_k_gf (jx_fok (by decide +kernel : decode (jx_mb 45) 64 = .ok (.getfield 120, 3))) rfl hk rfl
  · exact fun d st M Q l0 l2 x => jx_ev_st (jx_fok (by decide +kernel : decode (jx_mb 45) 67 = .ok (.iload_n 1, 1))) rfl rfl rfl
  · exact fun d lv st M Q x a ha => jx_k_al (jx_fok (by decide +kernel : decode (jx_mb 45) 68 = .ok (.iaload, 1))) ha
  · exact fun d lv M Q x => jx_k_ri (jx_fok (by decide +kernel : decode (jx_mb 45) 69 = .ok (.ireturn, 1))) rfl
  · exact fun d lv st M Q => jx_ev_st (jx_fok (by decide +kernel : decode (jx_mb 45) 70 = .ok (.bipush (-2), 2))) rfl rfl rfl
  · exact fun d lv M Q x => jx_k_ri (jx_fok (by decide +kernel : decode (jx_mb 45) 72 = .ok (.ireturn, 1))) rfl
theorem kX7_ofClap (d : Nat) (M : jx_M) (q : Int32 → jx_M → Prop) (a0 a1 a2 : Value) : jx_I d 45 [a0, a1, a2] M q ↔ jx_Ev d 45 0 [some a0, some a1, some a2] [] M (jx_qI q) := Iff.rfl
set_option maxRecDepth 100000 in
theorem eX7_nerve :
  (∀ (d : Nat) (st : List Value) (M : jx_M) (Q : jx_Po) (l1 l2 l3 : Option Value) (x : Nat), jx_Ev d 46 0 [some (.ref x), l1, l2, l3] st M Q ↔ jx_Ev d 46 1 [some (.ref x), l1, l2, l3] (.ref x :: st) M Q) ∧
  (∀ (d : Nat) (lv : List (Option Value)) (st : List Value) (M : jx_M) (Q : jx_Po), jx_Ev d 46 1 lv (.ref 0 :: st) M Q ↔ jx_Ev d 46 4 lv (jx_rv (M 0 6) :: st) M Q) ∧
  (∀ (d : Nat) (st : List Value) (M : jx_M) (Q : jx_Po) (l0 l2 l3 : Option Value) (x : Int32), jx_Ev d 46 4 [l0, some (.int x), l2, l3] st M Q ↔ jx_Ev d 46 5 [l0, some (.int x), l2, l3] (.int x :: st) M Q) ∧
  (∀ (d : Nat) (lv : List (Option Value)) (M : jx_M) (Q : jx_Po) (a0 : Int32) (a1 : Nat) (hk : jx_cl a1 = 1), jx_Ev (d + 1) 46 5 lv [.int a0, .ref a1] M Q ↔ jx_I d 5 [.ref a1, .int a0] M (fun x M => jx_Ev (d + 1) 46 8 lv (.int x :: []) M Q)) ∧
  (∀ (d : Nat) (lv : List (Option Value)) (st : List Value) (M : jx_M) (Q : jx_Po) (x : Int32), jx_Ev d 46 8 lv (.int x :: st) M Q ↔ (if x = 0 then jx_Ev d 46 11 lv st M Q else jx_Ev d 46 13 lv st M Q)) ∧
  (∀ (d : Nat) (lv : List (Option Value)) (st : List Value) (M : jx_M) (Q : jx_Po), jx_Ev d 46 11 lv st M Q ↔ jx_Ev d 46 12 lv (.int (-1) :: st) M Q) ∧
  (∀ (d : Nat) (lv : List (Option Value)) (M : jx_M) (Q : jx_Po) (x : Int32), jx_Ev d 46 12 lv [.int x] M Q ↔ Q [.int x] M) ∧
  (∀ (d : Nat) (st : List Value) (M : jx_M) (Q : jx_Po) (l0 l1 l3 : Option Value) (x : Int32), jx_Ev d 46 13 [l0, l1, some (.int x), l3] st M Q ↔ jx_Ev d 46 14 [l0, l1, some (.int x), l3] (.int x :: st) M Q) ∧
  (∀ (d : Nat) (lv : List (Option Value)) (st : List Value) (M : jx_M) (Q : jx_Po) (x : Int32), jx_Ev d 46 14 lv (.int x :: st) M Q ↔ (if x < 0 then jx_Ev d 46 23 lv st M Q else jx_Ev d 46 17 lv st M Q)) ∧
  (∀ (d : Nat) (st : List Value) (M : jx_M) (Q : jx_Po) (l0 l1 l3 : Option Value) (x : Int32), jx_Ev d 46 17 [l0, l1, some (.int x), l3] st M Q ↔ jx_Ev d 46 18 [l0, l1, some (.int x), l3] (.int x :: st) M Q) ∧
  (∀ (d : Nat) (lv : List (Option Value)) (st : List Value) (M : jx_M) (Q : jx_Po), jx_Ev d 46 18 lv st M Q ↔ jx_Ev d 46 20 lv (.int 9 :: st) M Q) ∧
  (∀ (d : Nat) (lv : List (Option Value)) (st : List Value) (M : jx_M) (Q : jx_Po) (x z : Int32), jx_Ev d 46 20 lv (.int z :: .int x :: st) M Q ↔ (if x ≤ z then jx_Ev d 46 26 lv st M Q else jx_Ev d 46 23 lv st M Q)) ∧
  (∀ (d : Nat) (lv : List (Option Value)) (st : List Value) (M : jx_M) (Q : jx_Po), jx_Ev d 46 23 lv st M Q ↔ jx_Ev d 46 25 lv (.int (-2) :: st) M Q) ∧
  (∀ (d : Nat) (lv : List (Option Value)) (M : jx_M) (Q : jx_Po) (x : Int32), jx_Ev d 46 25 lv [.int x] M Q ↔ Q [.int x] M) ∧
  (∀ (d : Nat) (st : List Value) (M : jx_M) (Q : jx_Po) (l1 l2 l3 : Option Value) (x : Nat), jx_Ev d 46 26 [some (.ref x), l1, l2, l3] st M Q ↔ jx_Ev d 46 27 [some (.ref x), l1, l2, l3] (.ref x :: st) M Q) ∧
  (∀ (d : Nat) (lv : List (Option Value)) (st : List Value) (M : jx_M) (Q : jx_Po), jx_Ev d 46 27 lv (.ref 0 :: st) M Q ↔ jx_Ev d 46 30 lv (jx_rv (M 0 6) :: st) M Q) ∧
  (∀ (d : Nat) (lv : List (Option Value)) (st : List Value) (M : jx_M) (Q : jx_Po) (k : Nat) (hk : jx_cl k = 1), jx_Ev d 46 30 lv (.ref k :: st) M Q ↔ jx_Ev d 46 33 lv (.ref (k + 1) :: st) M Q) ∧
  (∀ (d : Nat) (st : List Value) (M : jx_M) (Q : jx_Po) (l0 l2 l3 : Option Value) (x : Int32), jx_Ev d 46 33 [l0, some (.int x), l2, l3] st M Q ↔ jx_Ev d 46 34 [l0, some (.int x), l2, l3] (.int x :: st) M Q) ∧
  (∀ (d : Nat) (lv : List (Option Value)) (st : List Value) (M : jx_M) (Q : jx_Po) (x : Int32) (a : Nat) (ha : jx_cl a = 9), jx_Ev d 46 34 lv (.int x :: .ref a :: st) M Q ↔ (vp_in x (jx_sz a) ∧ jx_Ev d 46 35 lv (.int (M a x.toNatClampNeg) :: st) M Q)) ∧
  (∀ (d : Nat) (st : List Value) (M : jx_M) (Q : jx_Po) (l0 l1 l2 l3 : Option Value) (x : Int32), jx_Ev d 46 35 [l0, l1, l2, l3] (.int x :: st) M Q ↔ jx_Ev d 46 36 [l0, l1, l2, some (.int x)] st M Q) ∧
  (∀ (d : Nat) (st : List Value) (M : jx_M) (Q : jx_Po) (l1 l2 l3 : Option Value) (x : Nat), jx_Ev d 46 36 [some (.ref x), l1, l2, l3] st M Q ↔ jx_Ev d 46 37 [some (.ref x), l1, l2, l3] (.ref x :: st) M Q) ∧
  (∀ (d : Nat) (lv : List (Option Value)) (st : List Value) (M : jx_M) (Q : jx_Po), jx_Ev d 46 37 lv (.ref 0 :: st) M Q ↔ jx_Ev d 46 40 lv (jx_rv (M 0 6) :: st) M Q) ∧
  (∀ (d : Nat) (lv : List (Option Value)) (st : List Value) (M : jx_M) (Q : jx_Po) (k : Nat) (hk : jx_cl k = 1), jx_Ev d 46 40 lv (.ref k :: st) M Q ↔ jx_Ev d 46 43 lv (.ref (k + 1) :: st) M Q) ∧
  (∀ (d : Nat) (st : List Value) (M : jx_M) (Q : jx_Po) (l0 l2 l3 : Option Value) (x : Int32), jx_Ev d 46 43 [l0, some (.int x), l2, l3] st M Q ↔ jx_Ev d 46 44 [l0, some (.int x), l2, l3] (.int x :: st) M Q) ∧
  (∀ (d : Nat) (st : List Value) (M : jx_M) (Q : jx_Po) (l0 l1 l3 : Option Value) (x : Int32), jx_Ev d 46 44 [l0, l1, some (.int x), l3] st M Q ↔ jx_Ev d 46 45 [l0, l1, some (.int x), l3] (.int x :: st) M Q) ∧
  (∀ (d : Nat) (lv : List (Option Value)) (st : List Value) (M : jx_M) (Q : jx_Po) (x z : Int32) (a : Nat) (ha : jx_cl a = 9), jx_Ev d 46 45 lv (.int z :: .int x :: .ref a :: st) M Q ↔ (vp_in x (jx_sz a) ∧ jx_Ev d 46 46 lv st (jx_up M a x.toNatClampNeg z) Q)) ∧
  (∀ (d : Nat) (st : List Value) (M : jx_M) (Q : jx_Po) (l0 l1 l2 : Option Value) (x : Int32), jx_Ev d 46 46 [l0, l1, l2, some (.int x)] st M Q ↔ jx_Ev d 46 47 [l0, l1, l2, some (.int x)] (.int x :: st) M Q) ∧
  (∀ (d : Nat) (lv : List (Option Value)) (M : jx_M) (Q : jx_Po) (x : Int32), jx_Ev d 46 47 lv [.int x] M Q ↔ Q [.int x] M) := by
  refine ⟨?_, ?_, ?_, ?_, ?_, ?_, ?_, ?_, ?_, ?_, ?_, ?_, ?_, ?_, ?_, ?_, ?_, ?_, ?_, ?_, ?_, ?_, ?_, ?_, ?_, ?_, ?_, ?_⟩
  · exact fun d st M Q l1 l2 l3 x => jx_ev_st (jx_fok (by decide +kernel : decode (jx_mb 46) 0 = .ok (.aload_n 0, 1))) rfl rfl rfl
  · exact fun d lv st M Q => jx_k_gf (jx_fok (by decide +kernel : decode (jx_mb 46) 1 = .ok (.getfield 55, 3))) rfl rfl rfl
  · exact fun d st M Q l0 l2 l3 x => jx_ev_st (jx_fok (by decide +kernel : decode (jx_mb 46) 4 = .ok (.iload_n 1, 1))) rfl rfl rfl
  · exact fun d lv M Q a0 a1 hk => jx_ev_ci (jx_fok (by decide +kernel : decode (jx_mb 46) 5 = .ok (.invokevirtual 98, 3))) rfl (jx_ccV (As := [.int a0]) (rest := []) rfl rfl rfl hk rfl rfl) (by decide)
  · exact fun d lv st M Q x => jx_k_b1n (jx_fok (by decide +kernel : decode (jx_mb 46) 8 = .ok (.ifCond .ne 5, 3))) rfl jx_hNe
  · exact fun d lv st M Q => jx_ev_st (jx_fok (by decide +kernel : decode (jx_mb 46) 11 = .ok (.iconst (-1), 1))) rfl rfl rfl
  · exact fun d lv M Q x => jx_k_ri (jx_fok (by decide +kernel : decode (jx_mb 46) 12 = .ok (.ireturn, 1))) rfl
  · exact fun d st M Q l0 l1 l3 x => jx_ev_st (jx_fok (by decide +kernel : decode (jx_mb 46) 13 = .ok (.iload_n 2, 1))) rfl rfl rfl
  · exact fun d lv st M Q x => jx_k_b1 (jx_fok (by decide +kernel : decode (jx_mb 46) 14 = .ok (.ifCond .lt 9, 3))) rfl jx_hLt
  · exact fun d st M Q l0 l1 l3 x => jx_ev_st (jx_fok (by decide +kernel : decode (jx_mb 46) 17 = .ok (.iload_n 2, 1))) rfl rfl rfl
  · exact fun d lv st M Q => jx_ev_st (jx_fok (by decide +kernel : decode (jx_mb 46) 18 = .ok (.bipush 9, 2))) rfl rfl rfl
  · exact fun d lv st M Q x z => jx_k_b2 (jx_fok (by decide +kernel : decode (jx_mb 46) 20 = .ok (.if_icmp .le 6, 3))) rfl jx_hLe
  · exact fun d lv st M Q => jx_ev_st (jx_fok (by decide +kernel : decode (jx_mb 46) 23 = .ok (.bipush (-2), 2))) rfl rfl rfl
  · exact fun d lv M Q x => jx_k_ri (jx_fok (by decide +kernel : decode (jx_mb 46) 25 = .ok (.ireturn, 1))) rfl
  · exact fun d st M Q l1 l2 l3 x => jx_ev_st (jx_fok (by decide +kernel : decode (jx_mb 46) 26 = .ok (.aload_n 0, 1))) rfl rfl rfl
  · exact fun d lv st M Q => jx_k_gf (jx_fok (by decide +kernel : decode (jx_mb 46) 27 = .ok (.getfield 55, 3))) rfl rfl rfl
  · exact fun d lv st M Q k hk => jx_k_gf (jx_fok (by decide +kernel : decode (jx_mb 46) 30 = .ok (.getfield 101, 3))) rfl hk rfl
  · exact fun d st M Q l0 l2 l3 x => jx_ev_st (jx_fok (by decide +kernel : decode (jx_mb 46) 33 = .ok (.iload_n 1, 1))) rfl rfl rfl
  · exact fun d lv st M Q x a ha => jx_k_al (jx_fok (by decide +kernel : decode (jx_mb 46) 34 = .ok (.iaload, 1))) ha
  · exact fun d st M Q l0 l1 l2 l3 x => jx_ev_st (jx_fok (by decide +kernel : decode (jx_mb 46) 35 = .ok (.istore_n 3, 1))) rfl rfl rfl
  · exact fun d st M Q l1 l2 l3 x => jx_ev_st (jx_fok (by decide +kernel : decode (jx_mb 46) 36 = .ok (.aload_n 0, 1))) rfl rfl rfl
  · exact fun d lv st M Q => jx_k_gf (jx_fok (by decide +kernel : decode (jx_mb 46) 37 = .ok (.getfield 55, 3))) rfl rfl rfl
  · exact fun d lv st M Q k hk => jx_k_gf (jx_fok (by decide +kernel : decode (jx_mb 46) 40 = .ok (.getfield 101, 3))) rfl hk rfl
  · exact fun d st M Q l0 l2 l3 x => jx_ev_st (jx_fok (by decide +kernel : decode (jx_mb 46) 43 = .ok (.iload_n 1, 1))) rfl rfl rfl
  · exact fun d st M Q l0 l1 l3 x => jx_ev_st (jx_fok (by decide +kernel : decode (jx_mb 46) 44 = .ok (.iload_n 2, 1))) rfl rfl rfl
  · exact fun d lv st M Q x z a ha => jx_k_as (jx_fok (by decide +kernel : decode (jx_mb 46) 45 = .ok (.iastore, 1))) ha
  · exact fun d st M Q l0 l1 l2 x => jx_ev_st (jx_fok (by decide +kernel : decode (jx_mb 46) 46 = .ok (.iload_n 3, 1))) rfl rfl rfl
  · exact fun d lv M Q x => jx_k_ri (jx_fok (by decide +kernel : decode (jx_mb 46) 47 = .ok (.ireturn, 1))) rfl
theorem kX7_nerve (d : Nat) (M : jx_M) (q : Int32 → jx_M → Prop) (a0 a1 a2 : Value) : jx_I d 46 [a0, a1, a2] M q ↔ jx_Ev d 46 0 [some a0, some a1, some a2, none] [] M (jx_qI q) := Iff.rfl
set_option maxRecDepth 100000 in
theorem eX7_damp :
  (∀ (d : Nat) (st : List Value) (M : jx_M) (Q : jx_Po) (l0 l2 : Option Value) (x : Int32), jx_Ev d 47 0 [l0, some (.int x), l2] st M Q ↔ jx_Ev d 47 1 [l0, some (.int x), l2] (.int x :: st) M Q) ∧
  (∀ (d : Nat) (lv : List (Option Value)) (st : List Value) (M : jx_M) (Q : jx_Po) (x : Int32), jx_Ev d 47 1 lv (.int x :: st) M Q ↔ (if x < 0 then jx_Ev d 47 9 lv st M Q else jx_Ev d 47 4 lv st M Q)) ∧
  (∀ (d : Nat) (st : List Value) (M : jx_M) (Q : jx_Po) (l0 l2 : Option Value) (x : Int32), jx_Ev d 47 4 [l0, some (.int x), l2] st M Q ↔ jx_Ev d 47 5 [l0, some (.int x), l2] (.int x :: st) M Q) ∧
  (∀ (d : Nat) (lv : List (Option Value)) (st : List Value) (M : jx_M) (Q : jx_Po), jx_Ev d 47 5 lv st M Q ↔ jx_Ev d 47 6 lv (.int 3 :: st) M Q) ∧
  (∀ (d : Nat) (lv : List (Option Value)) (st : List Value) (M : jx_M) (Q : jx_Po) (x z : Int32), jx_Ev d 47 6 lv (.int z :: .int x :: st) M Q ↔ (if x ≤ z then jx_Ev d 47 12 lv st M Q else jx_Ev d 47 9 lv st M Q)) ∧
  (∀ (d : Nat) (lv : List (Option Value)) (st : List Value) (M : jx_M) (Q : jx_Po), jx_Ev d 47 9 lv st M Q ↔ jx_Ev d 47 11 lv (.int (-2) :: st) M Q) ∧
  (∀ (d : Nat) (lv : List (Option Value)) (M : jx_M) (Q : jx_Po) (x : Int32), jx_Ev d 47 11 lv [.int x] M Q ↔ Q [.int x] M) ∧
  (∀ (d : Nat) (st : List Value) (M : jx_M) (Q : jx_Po) (l1 l2 : Option Value) (x : Nat), jx_Ev d 47 12 [some (.ref x), l1, l2] st M Q ↔ jx_Ev d 47 13 [some (.ref x), l1, l2] (.ref x :: st) M Q) ∧
  (∀ (d : Nat) (lv : List (Option Value)) (st : List Value) (M : jx_M) (Q : jx_Po), jx_Ev d 47 13 lv (.ref 0 :: st) M Q ↔ jx_Ev d 47 16 lv (jx_rv (M 0 6) :: st) M Q) ∧
  (∀ (d : Nat) (lv : List (Option Value)) (M : jx_M) (Q : jx_Po) (a0 : Nat) (hk : jx_cl a0 = 1), jx_Ev (d + 1) 47 16 lv [.ref a0] M Q ↔ jx_I d 4 [.ref a0] M (fun x M => jx_Ev (d + 1) 47 19 lv (.int x :: []) M Q)) ∧
  (∀ (d : Nat) (lv : List (Option Value)) (st : List Value) (M : jx_M) (Q : jx_Po) (x : Int32), jx_Ev d 47 19 lv (.int x :: st) M Q ↔ (if x = 0 then jx_Ev d 47 22 lv st M Q else jx_Ev d 47 25 lv st M Q)) ∧
  (∀ (d : Nat) (lv : List (Option Value)) (st : List Value) (M : jx_M) (Q : jx_Po), jx_Ev d 47 22 lv st M Q ↔ jx_Ev d 47 24 lv (.int (-3) :: st) M Q) ∧
  (∀ (d : Nat) (lv : List (Option Value)) (M : jx_M) (Q : jx_Po) (x : Int32), jx_Ev d 47 24 lv [.int x] M Q ↔ Q [.int x] M) ∧
  (∀ (d : Nat) (st : List Value) (M : jx_M) (Q : jx_Po) (l1 l2 : Option Value) (x : Nat), jx_Ev d 47 25 [some (.ref x), l1, l2] st M Q ↔ jx_Ev d 47 26 [some (.ref x), l1, l2] (.ref x :: st) M Q) ∧
  (∀ (d : Nat) (lv : List (Option Value)) (st : List Value) (M : jx_M) (Q : jx_Po), jx_Ev d 47 26 lv (.ref 0 :: st) M Q ↔ jx_Ev d 47 29 lv (jx_rv (M 0 6) :: st) M Q) ∧
  (∀ (d : Nat) (lv : List (Option Value)) (st : List Value) (M : jx_M) (Q : jx_Po) (k : Nat) (hk : jx_cl k = 1), jx_Ev d 47 29 lv (.ref k :: st) M Q ↔ jx_Ev d 47 32 lv (.int (M k 7) :: st) M Q) ∧
  (∀ (d : Nat) (st : List Value) (M : jx_M) (Q : jx_Po) (l0 l1 l2 : Option Value) (x : Int32), jx_Ev d 47 32 [l0, l1, l2] (.int x :: st) M Q ↔ jx_Ev d 47 33 [l0, l1, some (.int x)] st M Q) ∧
  (∀ (d : Nat) (st : List Value) (M : jx_M) (Q : jx_Po) (l1 l2 : Option Value) (x : Nat), jx_Ev d 47 33 [some (.ref x), l1, l2] st M Q ↔ jx_Ev d 47 34 [some (.ref x), l1, l2] (.ref x :: st) M Q) ∧
  (∀ (d : Nat) (lv : List (Option Value)) (st : List Value) (M : jx_M) (Q : jx_Po), jx_Ev d 47 34 lv (.ref 0 :: st) M Q ↔ jx_Ev d 47 37 lv (jx_rv (M 0 6) :: st) M Q) ∧
  (∀ (d : Nat) (st : List Value) (M : jx_M) (Q : jx_Po) (l0 l2 : Option Value) (x : Int32), jx_Ev d 47 37 [l0, some (.int x), l2] st M Q ↔ jx_Ev d 47 38 [l0, some (.int x), l2] (.int x :: st) M Q) ∧
  (∀ (d : Nat) (lv : List (Option Value)) (st : List Value) (M : jx_M) (Q : jx_Po) (x : Int32) (k : Nat) (hk : jx_cl k = 1), jx_Ev d 47 38 lv (.int x :: .ref k :: st) M Q ↔ jx_Ev d 47 41 lv st (jx_up M k 7 x) Q) ∧
  (∀ (d : Nat) (st : List Value) (M : jx_M) (Q : jx_Po) (l0 l1 : Option Value) (x : Int32), jx_Ev d 47 41 [l0, l1, some (.int x)] st M Q ↔ jx_Ev d 47 42 [l0, l1, some (.int x)] (.int x :: st) M Q) ∧
  (∀ (d : Nat) (lv : List (Option Value)) (M : jx_M) (Q : jx_Po) (x : Int32), jx_Ev d 47 42 lv [.int x] M Q ↔ Q [.int x] M) := by
  refine ⟨?_, ?_, ?_, ?_, ?_, ?_, ?_, ?_, ?_, ?_, ?_, ?_, ?_, ?_, ?_, ?_, ?_, ?_, ?_, ?_, ?_, ?_, ?_⟩
  · exact fun d st M Q l0 l2 x => jx_ev_st (jx_fok (by decide +kernel : decode (jx_mb 47) 0 = .ok (.iload_n 1, 1))) rfl rfl rfl
  · exact fun d lv st M Q x => jx_k_b1 (jx_fok (by decide +kernel : decode (jx_mb 47) 1 = .ok (.ifCond .lt 8, 3))) rfl jx_hLt
  · exact fun d st M Q l0 l2 x => jx_ev_st (jx_fok (by decide +kernel : decode (jx_mb 47) 4 = .ok (.iload_n 1, 1))) rfl rfl rfl
  · exact fun d lv st M Q => jx_ev_st (jx_fok (by decide +kernel : decode (jx_mb 47) 5 = .ok (.iconst 3, 1))) rfl rfl rfl
  · exact fun d lv st M Q x z => jx_k_b2 (jx_fok (by decide +kernel : decode (jx_mb 47) 6 = .ok (.if_icmp .le 6, 3))) rfl jx_hLe
  · exact fun d lv st M Q => jx_ev_st (jx_fok (by decide +kernel : decode (jx_mb 47) 9 = .ok (.bipush (-2), 2))) rfl rfl rfl
  · exact fun d lv M Q x => jx_k_ri (jx_fok (by decide +kernel : decode (jx_mb 47) 11 = .ok (.ireturn, 1))) rfl
  · exact fun d st M Q l1 l2 x => jx_ev_st (jx_fok (by decide +kernel : decode (jx_mb 47) 12 = .ok (.aload_n 0, 1))) rfl rfl rfl
  · exact fun d lv st M Q => jx_k_gf (jx_fok (by decide +kernel : decode (jx_mb 47) 13 = .ok (.getfield 55, 3))) rfl rfl rfl
  · exact fun d lv M Q a0 hk => jx_ev_ci (jx_fok (by decide +kernel : decode (jx_mb 47) 16 = .ok (.invokevirtual 123, 3))) rfl (jx_ccV (As := []) (rest := []) rfl rfl rfl hk rfl rfl) (by decide)
  · exact fun d lv st M Q x => jx_k_b1n (jx_fok (by decide +kernel : decode (jx_mb 47) 19 = .ok (.ifCond .ne 6, 3))) rfl jx_hNe
  · exact fun d lv st M Q => jx_ev_st (jx_fok (by decide +kernel : decode (jx_mb 47) 22 = .ok (.bipush (-3), 2))) rfl rfl rfl
  · exact fun d lv M Q x => jx_k_ri (jx_fok (by decide +kernel : decode (jx_mb 47) 24 = .ok (.ireturn, 1))) rfl
  · exact fun d st M Q l1 l2 x => jx_ev_st (jx_fok (by decide +kernel : decode (jx_mb 47) 25 = .ok (.aload_n 0, 1))) rfl rfl rfl
  · exact fun d lv st M Q => jx_k_gf (jx_fok (by decide +kernel : decode (jx_mb 47) 26 = .ok (.getfield 55, 3))) rfl rfl rfl
  · exact fun d lv st M Q k hk => jx_k_gf (jx_fok (by decide +kernel : decode (jx_mb 47) 29 = .ok (.getfield 127, 3))) rfl hk rfl
  · exact fun d st M Q l0 l1 l2 x => jx_ev_st (jx_fok (by decide +kernel : decode (jx_mb 47) 32 = .ok (.istore_n 2, 1))) rfl rfl rfl
  · exact fun d st M Q l1 l2 x => jx_ev_st (jx_fok (by decide +kernel : decode (jx_mb 47) 33 = .ok (.aload_n 0, 1))) rfl rfl rfl
  · exact fun d lv st M Q => jx_k_gf (jx_fok (by decide +kernel : decode (jx_mb 47) 34 = .ok (.getfield 55, 3))) rfl rfl rfl
  · exact fun d st M Q l0 l2 x => jx_ev_st (jx_fok (by decide +kernel : decode (jx_mb 47) 37 = .ok (.iload_n 1, 1))) rfl rfl rfl
  · exact fun d lv st M Q x k hk => jx_k_pf0 (jx_fok (by decide +kernel : decode (jx_mb 47) 38 = .ok (.putfield 127, 3))) rfl hk rfl
  · exact fun d st M Q l0 l1 x => jx_ev_st (jx_fok (by decide +kernel : decode (jx_mb 47) 41 = .ok (.iload_n 2, 1))) rfl rfl rfl
  · exact fun d lv M Q x => jx_k_ri (jx_fok (by decide +kernel : decode (jx_mb 47) 42 = .ok (.ireturn, 1))) rfl
theorem kX7_damp (d : Nat) (M : jx_M) (q : Int32 → jx_M → Prop) (a0 a1 : Value) : jx_I d 47 [a0, a1] M q ↔ jx_Ev d 47 0 [some a0, some a1, none] [] M (jx_qI q) := Iff.rfl
set_option maxRecDepth 100000 in
theorem eX7_send :
  (∀ (d : Nat) (st : List Value) (M : jx_M) (Q : jx_Po) (l1 l2 l3 : Option Value) (x : Nat), jx_Ev d 48 0 [some (.ref x), l1, l2, l3] st M Q ↔ jx_Ev d 48 1 [some (.ref x), l1, l2, l3] (.ref x :: st) M Q) ∧
  (∀ (d : Nat) (lv : List (Option Value)) (st : List Value) (M : jx_M) (Q : jx_Po), jx_Ev d 48 1 lv (.ref 0 :: st) M Q ↔ jx_Ev d 48 4 lv (jx_rv (M 0 6) :: st) M Q) ∧
  (∀ (d : Nat) (st : List Value) (M : jx_M) (Q : jx_Po) (l0 l2 l3 : Option Value) (x : Int32), jx_Ev d 48 4 [l0, some (.int x), l2, l3] st M Q ↔ jx_Ev d 48 5 [l0, some (.int x), l2, l3] (.int x :: st) M Q) ∧
  (∀ (d : Nat) (lv : List (Option Value)) (M : jx_M) (Q : jx_Po) (a0 : Int32) (a1 : Nat) (hk : jx_cl a1 = 1), jx_Ev (d + 1) 48 5 lv [.int a0, .ref a1] M Q ↔ jx_I d 6 [.ref a1, .int a0] M (fun x M => jx_Ev (d + 1) 48 8 lv (.int x :: []) M Q)) ∧
  (∀ (d : Nat) (lv : List (Option Value)) (st : List Value) (M : jx_M) (Q : jx_Po) (x : Int32), jx_Ev d 48 8 lv (.int x :: st) M Q ↔ (if x = 0 then jx_Ev d 48 22 lv st M Q else jx_Ev d 48 11 lv st M Q)) ∧
  (∀ (d : Nat) (st : List Value) (M : jx_M) (Q : jx_Po) (l1 l2 l3 : Option Value) (x : Nat), jx_Ev d 48 11 [some (.ref x), l1, l2, l3] st M Q ↔ jx_Ev d 48 12 [some (.ref x), l1, l2, l3] (.ref x :: st) M Q) ∧
  (∀ (d : Nat) (lv : List (Option Value)) (st : List Value) (M : jx_M) (Q : jx_Po), jx_Ev d 48 12 lv (.ref 0 :: st) M Q ↔ jx_Ev d 48 15 lv (jx_rv (M 0 6) :: st) M Q) ∧
  (∀ (d : Nat) (st : List Value) (M : jx_M) (Q : jx_Po) (l0 l1 l3 : Option Value) (x : Int32), jx_Ev d 48 15 [l0, l1, some (.int x), l3] st M Q ↔ jx_Ev d 48 16 [l0, l1, some (.int x), l3] (.int x :: st) M Q) ∧
  (∀ (d : Nat) (lv : List (Option Value)) (M : jx_M) (Q : jx_Po) (a0 : Int32) (a1 : Nat) (hk : jx_cl a1 = 1), jx_Ev (d + 1) 48 16 lv [.int a0, .ref a1] M Q ↔ jx_I d 5 [.ref a1, .int a0] M (fun x M => jx_Ev (d + 1) 48 19 lv (.int x :: []) M Q)) ∧
  (∀ (d : Nat) (lv : List (Option Value)) (st : List Value) (M : jx_M) (Q : jx_Po) (x : Int32), jx_Ev d 48 19 lv (.int x :: st) M Q ↔ (if x = 0 then jx_Ev d 48 22 lv st M Q else jx_Ev d 48 24 lv st M Q)) ∧
  (∀ (d : Nat) (lv : List (Option Value)) (st : List Value) (M : jx_M) (Q : jx_Po), jx_Ev d 48 22 lv st M Q ↔ jx_Ev d 48 23 lv (.int (-1) :: st) M Q) ∧
  (∀ (d : Nat) (lv : List (Option Value)) (M : jx_M) (Q : jx_Po) (x : Int32), jx_Ev d 48 23 lv [.int x] M Q ↔ Q [.int x] M) ∧
  (∀ (d : Nat) (st : List Value) (M : jx_M) (Q : jx_Po) (l1 l2 l3 : Option Value) (x : Nat), jx_Ev d 48 24 [some (.ref x), l1, l2, l3] st M Q ↔ jx_Ev d 48 25 [some (.ref x), l1, l2, l3] (.ref x :: st) M Q) ∧
  (∀ (d : Nat) (lv : List (Option Value)) (st : List Value) (M : jx_M) (Q : jx_Po), jx_Ev d 48 25 lv (.ref 0 :: st) M Q ↔ jx_Ev d 48 28 lv (jx_rv (M 0 6) :: st) M Q) ∧
  (∀ (d : Nat) (lv : List (Option Value)) (st : List Value) (M : jx_M) (Q : jx_Po) (k : Nat) (hk : jx_cl k = 1), jx_Ev d 48 28 lv (.ref k :: st) M Q ↔ jx_Ev d 48 31 lv (.ref (k + 5) :: st) M Q) ∧
  (∀ (d : Nat) (st : List Value) (M : jx_M) (Q : jx_Po) (l0 l2 l3 : Option Value) (x : Int32), jx_Ev d 48 31 [l0, some (.int x), l2, l3] st M Q ↔ jx_Ev d 48 32 [l0, some (.int x), l2, l3] (.int x :: st) M Q) ∧
  (∀ (d : Nat) (lv : List (Option Value)) (st : List Value) (M : jx_M) (Q : jx_Po) (x : Int32) (a : Nat) (ha : jx_cl a = 9), jx_Ev d 48 32 lv (.int x :: .ref a :: st) M Q ↔ (vp_in x (jx_sz a) ∧ jx_Ev d 48 33 lv (.int (M a x.toNatClampNeg) :: st) M Q)) ∧
  (∀ (d : Nat) (st : List Value) (M : jx_M) (Q : jx_Po) (l0 l1 l2 l3 : Option Value) (x : Int32), jx_Ev d 48 33 [l0, l1, l2, l3] (.int x :: st) M Q ↔ jx_Ev d 48 34 [l0, l1, l2, some (.int x)] st M Q) ∧
  (∀ (d : Nat) (st : List Value) (M : jx_M) (Q : jx_Po) (l1 l2 l3 : Option Value) (x : Nat), jx_Ev d 48 34 [some (.ref x), l1, l2, l3] st M Q ↔ jx_Ev d 48 35 [some (.ref x), l1, l2, l3] (.ref x :: st) M Q) ∧
  (∀ (d : Nat) (lv : List (Option Value)) (st : List Value) (M : jx_M) (Q : jx_Po), jx_Ev d 48 35 lv (.ref 0 :: st) M Q ↔ jx_Ev d 48 38 lv (jx_rv (M 0 6) :: st) M Q) ∧
  (∀ (d : Nat) (lv : List (Option Value)) (st : List Value) (M : jx_M) (Q : jx_Po) (k : Nat) (hk : jx_cl k = 1), jx_Ev d 48 38 lv (.ref k :: st) M Q ↔ jx_Ev d 48 41 lv (.ref (k + 5) :: st) M Q) ∧
  (∀ (d : Nat) (st : List Value) (M : jx_M) (Q : jx_Po) (l0 l2 l3 : Option Value) (x : Int32), jx_Ev d 48 41 [l0, some (.int x), l2, l3] st M Q ↔ jx_Ev d 48 42 [l0, some (.int x), l2, l3] (.int x :: st) M Q) ∧
  (∀ (d : Nat) (st : List Value) (M : jx_M) (Q : jx_Po) (l0 l1 l3 : Option Value) (x : Int32), jx_Ev d 48 42 [l0, l1, some (.int x), l3] st M Q ↔ jx_Ev d 48 43 [l0, l1, some (.int x), l3] (.int x :: st) M Q) ∧
  (∀ (d : Nat) (lv : List (Option Value)) (st : List Value) (M : jx_M) (Q : jx_Po) (x z : Int32) (a : Nat) (ha : jx_cl a = 9), jx_Ev d 48 43 lv (.int z :: .int x :: .ref a :: st) M Q ↔ (vp_in x (jx_sz a) ∧ jx_Ev d 48 44 lv st (jx_up M a x.toNatClampNeg z) Q)) ∧
  (∀ (d : Nat) (st : List Value) (M : jx_M) (Q : jx_Po) (l0 l1 l2 : Option Value) (x : Int32), jx_Ev d 48 44 [l0, l1, l2, some (.int x)] st M Q ↔ jx_Ev d 48 45 [l0, l1, l2, some (.int x)] (.int x :: st) M Q) ∧
  (∀ (d : Nat) (lv : List (Option Value)) (M : jx_M) (Q : jx_Po) (x : Int32), jx_Ev d 48 45 lv [.int x] M Q ↔ Q [.int x] M) := by
  refine ⟨?_, ?_, ?_, ?_, ?_, ?_, ?_, ?_, ?_, ?_, ?_, ?_, ?_, ?_, ?_, ?_, ?_, ?_, ?_, ?_, ?_, ?_, ?_, ?_, ?_, ?_⟩
  · exact fun d st M Q l1 l2 l3 x => jx_ev_st (jx_fok (by decide +kernel : decode (jx_mb 48) 0 = .ok (.aload_n 0, 1))) rfl rfl rfl
  · exact fun d lv st M Q => jx_k_gf (jx_fok (by decide +kernel : decode (jx_mb 48) 1 = .ok (.getfield 55, 3))) rfl rfl rfl
  · exact fun d st M Q l0 l2 l3 x => jx_ev_st (jx_fok (by decide +kernel : decode (jx_mb 48) 4 = .ok (.iload_n 1, 1))) rfl rfl rfl
  · exact fun d lv M Q a0 a1 hk => jx_ev_ci (jx_fok (by decide +kernel : decode (jx_mb 48) 5 = .ok (.invokevirtual 111, 3))) rfl (jx_ccV (As := [.int a0]) (rest := []) rfl rfl rfl hk rfl rfl) (by decide)
  · exact fun d lv st M Q x => jx_k_b1 (jx_fok (by decide +kernel : decode (jx_mb 48) 8 = .ok (.ifCond .eq 14, 3))) rfl jx_hEq
  · exact fun d st M Q l1 l2 l3 x => jx_ev_st (jx_fok (by decide +kernel : decode (jx_mb 48) 11 = .ok (.aload_n 0, 1))) rfl rfl rfl
  · exact fun d lv st M Q => jx_k_gf (jx_fok (by decide +kernel : decode (jx_mb 48) 12 = .ok (.getfield 55, 3))) rfl rfl rfl
  · exact fun d st M Q l0 l1 l3 x => jx_ev_st (jx_fok (by decide +kernel : decode (jx_mb 48) 15 = .ok (.iload_n 2, 1))) rfl rfl rfl
  · exact fun d lv M Q a0 a1 hk => jx_ev_ci (jx_fok (by decide +kernel : decode (jx_mb 48) 16 = .ok (.invokevirtual 98, 3))) rfl (jx_ccV (As := [.int a0]) (rest := []) rfl rfl rfl hk rfl rfl) (by decide)
  · exact fun d lv st M Q x => jx_k_b1n (jx_fok (by decide +kernel : decode (jx_mb 48) 19 = .ok (.ifCond .ne 5, 3))) rfl jx_hNe
  · exact fun d lv st M Q => jx_ev_st (jx_fok (by decide +kernel : decode (jx_mb 48) 22 = .ok (.iconst (-1), 1))) rfl rfl rfl
  · exact fun d lv M Q x => jx_k_ri (jx_fok (by decide +kernel : decode (jx_mb 48) 23 = .ok (.ireturn, 1))) rfl
  · exact fun d st M Q l1 l2 l3 x => jx_ev_st (jx_fok (by decide +kernel : decode (jx_mb 48) 24 = .ok (.aload_n 0, 1))) rfl rfl rfl
  · exact fun d lv st M Q => jx_k_gf (jx_fok (by decide +kernel : decode (jx_mb 48) 25 = .ok (.getfield 55, 3))) rfl rfl rfl
  · exact fun d lv st M Q k hk => jx_k_gf (jx_fok (by decide +kernel : decode (jx_mb 48) 28 = .ok (.getfield 120, 3))) rfl hk rfl
  · exact fun d st M Q l0 l2 l3 x => jx_ev_st (jx_fok (by decide +kernel : decode (jx_mb 48) 31 = .ok (.iload_n 1, 1))) rfl rfl rfl
  · exact fun d lv st M Q x a ha => jx_k_al (jx_fok (by decide +kernel : decode (jx_mb 48) 32 = .ok (.iaload, 1))) ha
  · exact fun d st M Q l0 l1 l2 l3 x => jx_ev_st (jx_fok (by decide +kernel : decode (jx_mb 48) 33 = .ok (.istore_n 3, 1))) rfl rfl rfl
  · exact fun d st M Q l1 l2 l3 x => jx_ev_st (jx_fok (by decide +kernel : decode (jx_mb 48) 34 = .ok (.aload_n 0, 1))) rfl rfl rfl
  · exact fun d lv st M Q => jx_k_gf (jx_fok (by decide +kernel : decode (jx_mb 48) 35 = .ok (.getfield 55, 3))) rfl rfl rfl
  · exact fun d lv st M Q k hk => jx_k_gf (jx_fok (by decide +kernel : decode (jx_mb 48) 38 = .ok (.getfield 120, 3))) rfl hk rfl
  · exact fun d st M Q l0 l2 l3 x => jx_ev_st (jx_fok (by decide +kernel : decode (jx_mb 48) 41 = .ok (.iload_n 1, 1))) rfl rfl rfl
  · exact fun d st M Q l0 l1 l3 x => jx_ev_st (jx_fok (by decide +kernel : decode (jx_mb 48) 42 = .ok (.iload_n 2, 1))) rfl rfl rfl
  · exact fun d lv st M Q x z a ha => jx_k_as (jx_fok (by decide +kernel : decode (jx_mb 48) 43 = .ok (.iastore, 1))) ha
  · exact fun d st M Q l0 l1 l2 x => jx_ev_st (jx_fok (by decide +kernel : decode (jx_mb 48) 44 = .ok (.iload_n 3, 1))) rfl rfl rfl
  · exact fun d lv M Q x => jx_k_ri (jx_fok (by decide +kernel : decode (jx_mb 48) 45 = .ok (.ireturn, 1))) rfl
theorem kX7_send (d : Nat) (M : jx_M) (q : Int32 → jx_M → Prop) (a0 a1 a2 : Value) : jx_I d 48 [a0, a1, a2] M q ↔ jx_Ev d 48 0 [some a0, some a1, some a2, none] [] M (jx_qI q) := Iff.rfl
set_option maxRecDepth 100000 in
theorem eX7_loud :
  (∀ (d : Nat) (st : List Value) (M : jx_M) (Q : jx_Po) (l1 l2 : Option Value) (x : Nat), jx_Ev d 49 0 [some (.ref x), l1, l2] st M Q ↔ jx_Ev d 49 1 [some (.ref x), l1, l2] (.ref x :: st) M Q) ∧
  (∀ (d : Nat) (lv : List (Option Value)) (st : List Value) (M : jx_M) (Q : jx_Po), jx_Ev d 49 1 lv (.ref 0 :: st) M Q ↔ jx_Ev d 49 4 lv (jx_rv (M 0 6) :: st) M Q) ∧
  (∀ (d : Nat) (st : List Value) (M : jx_M) (Q : jx_Po) (l0 l2 : Option Value) (x : Int32), jx_Ev d 49 4 [l0, some (.int x), l2] st M Q ↔ jx_Ev d 49 5 [l0, some (.int x), l2] (.int x :: st) M Q) ∧
  (∀ (d : Nat) (lv : List (Option Value)) (M : jx_M) (Q : jx_Po) (a0 : Int32) (a1 : Nat) (hk : jx_cl a1 = 1), jx_Ev (d + 1) 49 5 lv [.int a0, .ref a1] M Q ↔ jx_I d 6 [.ref a1, .int a0] M (fun x M => jx_Ev (d + 1) 49 8 lv (.int x :: []) M Q)) ∧
  (∀ (d : Nat) (lv : List (Option Value)) (st : List Value) (M : jx_M) (Q : jx_Po) (x : Int32), jx_Ev d 49 8 lv (.int x :: st) M Q ↔ (if x = 0 then jx_Ev d 49 11 lv st M Q else jx_Ev d 49 13 lv st M Q)) ∧
  (∀ (d : Nat) (lv : List (Option Value)) (st : List Value) (M : jx_M) (Q : jx_Po), jx_Ev d 49 11 lv st M Q ↔ jx_Ev d 49 12 lv (.int (-1) :: st) M Q) ∧
  (∀ (d : Nat) (lv : List (Option Value)) (M : jx_M) (Q : jx_Po) (x : Int32), jx_Ev d 49 12 lv [.int x] M Q ↔ Q [.int x] M) ∧
  (∀ (d : Nat) (st : List Value) (M : jx_M) (Q : jx_Po) (l0 l1 : Option Value) (x : Int32), jx_Ev d 49 13 [l0, l1, some (.int x)] st M Q ↔ jx_Ev d 49 14 [l0, l1, some (.int x)] (.int x :: st) M Q) ∧
  (∀ (d : Nat) (lv : List (Option Value)) (M : jx_M) (Q : jx_Po) (a0 : Int32), jx_Ev (d + 1) 49 14 lv [.int a0] M Q ↔ jx_I d 81 [.int a0] M (fun x M => jx_Ev (d + 1) 49 17 lv (.int x :: []) M Q)) ∧
  (∀ (d : Nat) (lv : List (Option Value)) (st : List Value) (M : jx_M) (Q : jx_Po) (x : Int32), jx_Ev d 49 17 lv (.int x :: st) M Q ↔ (if x = 0 then jx_Ev d 49 32 lv st M Q else jx_Ev d 49 20 lv st M Q)) ∧
  (∀ (d : Nat) (st : List Value) (M : jx_M) (Q : jx_Po) (l1 l2 : Option Value) (x : Nat), jx_Ev d 49 20 [some (.ref x), l1, l2] st M Q ↔ jx_Ev d 49 21 [some (.ref x), l1, l2] (.ref x :: st) M Q) ∧
  (∀ (d : Nat) (lv : List (Option Value)) (st : List Value) (M : jx_M) (Q : jx_Po), jx_Ev d 49 21 lv (.ref 0 :: st) M Q ↔ jx_Ev d 49 24 lv (jx_rv (M 0 6) :: st) M Q) ∧
  (∀ (d : Nat) (st : List Value) (M : jx_M) (Q : jx_Po) (l0 l2 : Option Value) (x : Int32), jx_Ev d 49 24 [l0, some (.int x), l2] st M Q ↔ jx_Ev d 49 25 [l0, some (.int x), l2] (.int x :: st) M Q) ∧
  (∀ (d : Nat) (st : List Value) (M : jx_M) (Q : jx_Po) (l0 l1 : Option Value) (x : Int32), jx_Ev d 49 25 [l0, l1, some (.int x)] st M Q ↔ jx_Ev d 49 26 [l0, l1, some (.int x)] (.int x :: st) M Q) ∧
  (∀ (d : Nat) (lv : List (Option Value)) (M : jx_M) (Q : jx_Po) (a0 : Int32) (a1 : Int32) (a2 : Nat) (hk : jx_cl a2 = 1), jx_Ev (d + 1) 49 26 lv [.int a0, .int a1, .ref a2] M Q ↔ jx_I d 10 [.ref a2, .int a1, .int a0] M (fun x M => jx_Ev (d + 1) 49 29 lv (.int x :: []) M Q)) ∧
  (∀ (d : Nat) (lv : List (Option Value)) (st : List Value) (M : jx_M) (Q : jx_Po), jx_Ev d 49 29 lv st M Q ↔ jx_Ev d 49 34 lv st M Q) ∧
  (∀ (d : Nat) (lv : List (Option Value)) (st : List Value) (M : jx_M) (Q : jx_Po), jx_Ev d 49 32 lv st M Q ↔ jx_Ev d 49 34 lv (.int (-2) :: st) M Q) ∧
  (∀ (d : Nat) (lv : List (Option Value)) (M : jx_M) (Q : jx_Po) (x : Int32), jx_Ev d 49 34 lv [.int x] M Q ↔ Q [.int x] M) := by
  refine ⟨?_, ?_, ?_, ?_, ?_, ?_, ?_, ?_, ?_, ?_, ?_, ?_, ?_, ?_, ?_, ?_, ?_, ?_⟩
  · exact fun d st M Q l1 l2 x => jx_ev_st (jx_fok (by decide +kernel : decode (jx_mb 49) 0 = .ok (.aload_n 0, 1))) rfl rfl rfl
  · exact fun d lv st M Q => jx_k_gf (jx_fok (by decide +kernel : decode (jx_mb 49) 1 = .ok (.getfield 55, 3))) rfl rfl rfl
  · exact fun d st M Q l0 l2 x => jx_ev_st (jx_fok (by decide +kernel : decode (jx_mb 49) 4 = .ok (.iload_n 1, 1))) rfl rfl rfl
  · exact fun d lv M Q a0 a1 hk => jx_ev_ci (jx_fok (by decide +kernel : decode (jx_mb 49) 5 = .ok (.invokevirtual 111, 3))) rfl (jx_ccV (As := [.int a0]) (rest := []) rfl rfl rfl hk rfl rfl) (by decide)
  · exact fun d lv st M Q x => jx_k_b1n (jx_fok (by decide +kernel : decode (jx_mb 49) 8 = .ok (.ifCond .ne 5, 3))) rfl jx_hNe
  · exact fun d lv st M Q => jx_ev_st (jx_fok (by decide +kernel : decode (jx_mb 49) 11 = .ok (.iconst (-1), 1))) rfl rfl rfl
  · exact fun d lv M Q x => jx_k_ri (jx_fok (by decide +kernel : decode (jx_mb 49) 12 = .ok (.ireturn, 1))) rfl
  · exact fun d st M Q l0 l1 x => jx_ev_st (jx_fok (by decide +kernel : decode (jx_mb 49) 13 = .ok (.iload_n 2, 1))) rfl rfl rfl
  · exact fun d lv M Q a0 => jx_ev_ci (jx_fok (by decide +kernel : decode (jx_mb 49) 14 = .ok (.invokestatic 130, 3))) rfl (jx_ccS (As := [.int a0]) (rest := []) rfl rfl rfl rfl rfl) (by decide)
  · exact fun d lv st M Q x => jx_k_b1 (jx_fok (by decide +kernel : decode (jx_mb 49) 17 = .ok (.ifCond .eq 15, 3))) rfl jx_hEq
  · exact fun d st M Q l1 l2 x => jx_ev_st (jx_fok (by decide +kernel : decode (jx_mb 49) 20 = .ok (.aload_n 0, 1))) rfl rfl rfl
  · exact fun d lv st M Q => jx_k_gf (jx_fok (by decide +kernel : decode (jx_mb 49) 21 = .ok (.getfield 55, 3))) rfl rfl rfl
  · exact fun d st M Q l0 l2 x => jx_ev_st (jx_fok (by decide +kernel : decode (jx_mb 49) 24 = .ok (.iload_n 1, 1))) rfl rfl rfl
  · exact fun d st M Q l0 l1 x => jx_ev_st (jx_fok (by decide +kernel : decode (jx_mb 49) 25 = .ok (.iload_n 2, 1))) rfl rfl rfl
  · exact fun d lv M Q a0 a1 a2 hk => jx_ev_ci (jx_fok (by decide +kernel : decode (jx_mb 49) 26 = .ok (.invokevirtual 133, 3))) rfl (jx_ccV (As := [.int a1, .int a0]) (rest := []) rfl rfl rfl hk rfl rfl) (by decide)
  · exact fun d lv st M Q => jx_k_goto (jx_fok (by decide +kernel : decode (jx_mb 49) 29 = .ok (.goto 5, 3))) rfl
  · exact fun d lv st M Q => jx_ev_st (jx_fok (by decide +kernel : decode (jx_mb 49) 32 = .ok (.bipush (-2), 2))) rfl rfl rfl
  · exact fun d lv M Q x => jx_k_ri (jx_fok (by decide +kernel : decode (jx_mb 49) 34 = .ok (.ireturn, 1))) rfl
theorem kX7_loud (d : Nat) (M : jx_M) (q : Int32 → jx_M → Prop) (a0 a1 a2 : Value) : jx_I d 49 [a0, a1, a2] M q ↔ jx_Ev d 49 0 [some a0, some a1, some a2] [] M (jx_qI q) := Iff.rfl
set_option maxRecDepth 100000 in
theorem eX7_owner :
  (∀ (d : Nat) (st : List Value) (M : jx_M) (Q : jx_Po) (l1 l2 : Option Value) (x : Nat), jx_Ev d 50 0 [some (.ref x), l1, l2] st M Q ↔ jx_Ev d 50 1 [some (.ref x), l1, l2] (.ref x :: st) M Q) ∧
  (∀ (d : Nat) (lv : List (Option Value)) (st : List Value) (M : jx_M) (Q : jx_Po), jx_Ev d 50 1 lv (.ref 0 :: st) M Q ↔ jx_Ev d 50 4 lv (jx_rv (M 0 6) :: st) M Q) ∧
  (∀ (d : Nat) (st : List Value) (M : jx_M) (Q : jx_Po) (l0 l2 : Option Value) (x : Int32), jx_Ev d 50 4 [l0, some (.int x), l2] st M Q ↔ jx_Ev d 50 5 [l0, some (.int x), l2] (.int x :: st) M Q) ∧
  (∀ (d : Nat) (lv : List (Option Value)) (M : jx_M) (Q : jx_Po) (a0 : Int32) (a1 : Nat) (hk : jx_cl a1 = 1), jx_Ev (d + 1) 50 5 lv [.int a0, .ref a1] M Q ↔ jx_I d 6 [.ref a1, .int a0] M (fun x M => jx_Ev (d + 1) 50 8 lv (.int x :: []) M Q)) ∧
  (∀ (d : Nat) (lv : List (Option Value)) (st : List Value) (M : jx_M) (Q : jx_Po) (x : Int32), jx_Ev d 50 8 lv (.int x :: st) M Q ↔ (if x = 0 then jx_Ev d 50 11 lv st M Q else jx_Ev d 50 13 lv st M Q)) ∧
  (∀ (d : Nat) (lv : List (Option Value)) (st : List Value) (M : jx_M) (Q : jx_Po), jx_Ev d 50 11 lv st M Q ↔ jx_Ev d 50 12 lv (.int (-1) :: st) M Q) ∧
  (∀ (d : Nat) (lv : List (Option Value)) (M : jx_M) (Q : jx_Po) (x : Int32), jx_Ev d 50 12 lv [.int x] M Q ↔ Q [.int x] M) ∧
  (∀ (d : Nat) (st : List Value) (M : jx_M) (Q : jx_Po) (l0 l1 : Option Value) (x : Int32), jx_Ev d 50 13 [l0, l1, some (.int x)] st M Q ↔ jx_Ev d 50 14 [l0, l1, some (.int x)] (.int x :: st) M Q) ∧
  (∀ (d : Nat) (lv : List (Option Value)) (M : jx_M) (Q : jx_Po) (a0 : Int32), jx_Ev (d + 1) 50 14 lv [.int a0] M Q ↔ jx_I d 81 [.int a0] M (fun x M => jx_Ev (d + 1) 50 17 lv (.int x :: []) M Q)) ∧
  (∀ (d : Nat) (lv : List (Option Value)) (st : List Value) (M : jx_M) (Q : jx_Po) (x : Int32), jx_Ev d 50 17 lv (.int x :: st) M Q ↔ (if x = 0 then jx_Ev d 50 39 lv st M Q else jx_Ev d 50 20 lv st M Q)) ∧
  (∀ (d : Nat) (st : List Value) (M : jx_M) (Q : jx_Po) (l1 l2 : Option Value) (x : Nat), jx_Ev d 50 20 [some (.ref x), l1, l2] st M Q ↔ jx_Ev d 50 21 [some (.ref x), l1, l2] (.ref x :: st) M Q) ∧
  (∀ (d : Nat) (lv : List (Option Value)) (st : List Value) (M : jx_M) (Q : jx_Po), jx_Ev d 50 21 lv (.ref 0 :: st) M Q ↔ jx_Ev d 50 24 lv (jx_rv (M 0 6) :: st) M Q) ∧
  (∀ (d : Nat) (st : List Value) (M : jx_M) (Q : jx_Po) (l0 l2 : Option Value) (x : Int32), jx_Ev d 50 24 [l0, some (.int x), l2] st M Q ↔ jx_Ev d 50 25 [l0, some (.int x), l2] (.int x :: st) M Q) ∧
  (∀ (d : Nat) (st : List Value) (M : jx_M) (Q : jx_Po) (l0 l1 : Option Value) (x : Int32), jx_Ev d 50 25 [l0, l1, some (.int x)] st M Q ↔ jx_Ev d 50 26 [l0, l1, some (.int x)] (.int x :: st) M Q) ∧
  (∀ (d : Nat) (st : List Value) (M : jx_M) (Q : jx_Po) (l1 l2 : Option Value) (x : Nat), jx_Ev d 50 26 [some (.ref x), l1, l2] st M Q ↔ jx_Ev d 50 27 [some (.ref x), l1, l2] (.ref x :: st) M Q) ∧
  (∀ (d : Nat) (lv : List (Option Value)) (st : List Value) (M : jx_M) (Q : jx_Po), jx_Ev d 50 27 lv (.ref 0 :: st) M Q ↔ jx_Ev d 50 30 lv (jx_rv (M 0 6) :: st) M Q) ∧
  (∀ (d : Nat) (lv : List (Option Value)) (M : jx_M) (Q : jx_Po) (a0 : Nat) (a1 : Int32) (a2 : Int32) (a3 : Nat) (hk : jx_cl a0 = 1), jx_Ev (d + 1) 50 30 lv [.ref a0, .int a1, .int a2, .ref a3] M Q ↔ jx_I d 9 [.ref a0] M (fun x M => jx_Ev (d + 1) 50 33 lv (.int x :: [.int a1, .int a2, .ref a3]) M Q)) ∧
  (∀ (d : Nat) (lv : List (Option Value)) (M : jx_M) (Q : jx_Po) (a0 : Int32) (a1 : Int32) (a2 : Int32) (a3 : Nat) (hk : jx_cl a3 = 1), jx_Ev (d + 1) 50 33 lv [.int a0, .int a1, .int a2, .ref a3] M Q ↔ jx_I d 11 [.ref a3, .int a2, .int a1, .int a0] M (fun x M => jx_Ev (d + 1) 50 36 lv (.int x :: []) M Q)) ∧
  (∀ (d : Nat) (lv : List (Option Value)) (st : List Value) (M : jx_M) (Q : jx_Po), jx_Ev d 50 36 lv st M Q ↔ jx_Ev d 50 41 lv st M Q) ∧
  (∀ (d : Nat) (lv : List (Option Value)) (st : List Value) (M : jx_M) (Q : jx_Po), jx_Ev d 50 39 lv st M Q ↔ jx_Ev d 50 41 lv (.int (-2) :: st) M Q) ∧
  (∀ (d : Nat) (lv : List (Option Value)) (M : jx_M) (Q : jx_Po) (x : Int32), jx_Ev d 50 41 lv [.int x] M Q ↔ Q [.int x] M) := by
  refine ⟨?_, ?_, ?_, ?_, ?_, ?_, ?_, ?_, ?_, ?_, ?_, ?_, ?_, ?_, ?_, ?_, ?_, ?_, ?_, ?_, ?_⟩
  · exact fun d st M Q l1 l2 x => jx_ev_st (jx_fok (by decide +kernel : decode (jx_mb 50) 0 = .ok (.aload_n 0, 1))) rfl rfl rfl
  · exact fun d lv st M Q => jx_k_gf (jx_fok (by decide +kernel : decode (jx_mb 50) 1 = .ok (.getfield 55, 3))) rfl rfl rfl
  · exact fun d st M Q l0 l2 x => jx_ev_st (jx_fok (by decide +kernel : decode (jx_mb 50) 4 = .ok (.iload_n 1, 1))) rfl rfl rfl
  · exact fun d lv M Q a0 a1 hk => jx_ev_ci (jx_fok (by decide +kernel : decode (jx_mb 50) 5 = .ok (.invokevirtual 111, 3))) rfl (jx_ccV (As := [.int a0]) (rest := []) rfl rfl rfl hk rfl rfl) (by decide)
  · exact fun d lv st M Q x => jx_k_b1n (jx_fok (by decide +kernel : decode (jx_mb 50) 8 = .ok (.ifCond .ne 5, 3))) rfl jx_hNe
  · exact fun d lv st M Q => jx_ev_st (jx_fok (by decide +kernel : decode (jx_mb 50) 11 = .ok (.iconst (-1), 1))) rfl rfl rfl
  · exact fun d lv M Q x => jx_k_ri (jx_fok (by decide +kernel : decode (jx_mb 50) 12 = .ok (.ireturn, 1))) rfl
  · exact fun d st M Q l0 l1 x => jx_ev_st (jx_fok (by decide +kernel : decode (jx_mb 50) 13 = .ok (.iload_n 2, 1))) rfl rfl rfl
  · exact fun d lv M Q a0 => jx_ev_ci (jx_fok (by decide +kernel : decode (jx_mb 50) 14 = .ok (.invokestatic 130, 3))) rfl (jx_ccS (As := [.int a0]) (rest := []) rfl rfl rfl rfl rfl) (by decide)
  · exact fun d lv st M Q x => jx_k_b1 (jx_fok (by decide +kernel : decode (jx_mb 50) 17 = .ok (.ifCond .eq 22, 3))) rfl jx_hEq
  · exact fun d st M Q l1 l2 x => jx_ev_st (jx_fok (by decide +kernel : decode (jx_mb 50) 20 = .ok (.aload_n 0, 1))) rfl rfl rfl
  · exact fun d lv st M Q => jx_k_gf (jx_fok (by decide +kernel : decode (jx_mb 50) 21 = .ok (.getfield 55, 3))) rfl rfl rfl
  · exact fun d st M Q l0 l2 x => jx_ev_st (jx_fok (by decide +kernel : decode (jx_mb 50) 24 = .ok (.iload_n 1, 1))) rfl rfl rfl
  · exact fun d st M Q l0 l1 x => jx_ev_st (jx_fok (by decide +kernel : decode (jx_mb 50) 25 = .ok (.iload_n 2, 1))) rfl rfl rfl
  · exact fun d st M Q l1 l2 x => jx_ev_st (jx_fok (by decide +kernel : decode (jx_mb 50) 26 = .ok (.aload_n 0, 1))) rfl rfl rfl
  · exact fun d lv st M Q => jx_k_gf (jx_fok (by decide +kernel : decode (jx_mb 50) 27 = .ok (.getfield 55, 3))) rfl rfl rfl
  · exact fun d lv M Q a0 a1 a2 a3 hk => jx_ev_ci (jx_fok (by decide +kernel : decode (jx_mb 50) 30 = .ok (.invokevirtual 137, 3))) rfl (jx_ccV (As := []) (rest := [.int a1, .int a2, .ref a3]) rfl rfl rfl hk rfl rfl) (by decide)
  · exact fun d lv M Q a0 a1 a2 a3 hk => jx_ev_ci (jx_fok (by decide +kernel : decode (jx_mb 50) 33 = .ok (.invokevirtual 141, 3))) rfl (jx_ccV (As := [.int a2, .int a1, .int a0]) (rest := []) rfl rfl rfl hk rfl rfl) (by decide)
  · exact fun d lv st M Q => jx_k_goto (jx_fok (by decide +kernel : decode (jx_mb 50) 36 = .ok (.goto 5, 3))) rfl
  · exact fun d lv st M Q => jx_ev_st (jx_fok (by decide +kernel : decode (jx_mb 50) 39 = .ok (.bipush (-2), 2))) rfl rfl rfl
  · exact fun d lv M Q x => jx_k_ri (jx_fok (by decide +kernel : decode (jx_mb 50) 41 = .ok (.ireturn, 1))) rfl
theorem kX7_owner (d : Nat) (M : jx_M) (q : Int32 → jx_M → Prop) (a0 a1 a2 : Value) : jx_I d 50 [a0, a1, a2] M q ↔ jx_Ev d 50 0 [some a0, some a1, some a2] [] M (jx_qI q) := Iff.rfl
set_option maxRecDepth 100000 in
theorem eX7_last :
  (∀ (d : Nat) (st : List Value) (M : jx_M) (Q : jx_Po) (l1 l2 : Option Value) (x : Nat), jx_Ev d 51 0 [some (.ref x), l1, l2] st M Q ↔ jx_Ev d 51 1 [some (.ref x), l1, l2] (.ref x :: st) M Q) ∧
  (∀ (d : Nat) (lv : List (Option Value)) (st : List Value) (M : jx_M) (Q : jx_Po), jx_Ev d 51 1 lv (.ref 0 :: st) M Q ↔ jx_Ev d 51 4 lv (jx_rv (M 0 6) :: st) M Q) ∧
  (∀ (d : Nat) (st : List Value) (M : jx_M) (Q : jx_Po) (l0 l2 : Option Value) (x : Int32), jx_Ev d 51 4 [l0, some (.int x), l2] st M Q ↔ jx_Ev d 51 5 [l0, some (.int x), l2] (.int x :: st) M Q) ∧
  (∀ (d : Nat) (lv : List (Option Value)) (M : jx_M) (Q : jx_Po) (a0 : Int32) (a1 : Nat) (hk : jx_cl a1 = 1), jx_Ev (d + 1) 51 5 lv [.int a0, .ref a1] M Q ↔ jx_I d 6 [.ref a1, .int a0] M (fun x M => jx_Ev (d + 1) 51 8 lv (.int x :: []) M Q)) ∧
  (∀ (d : Nat) (lv : List (Option Value)) (st : List Value) (M : jx_M) (Q : jx_Po) (x : Int32), jx_Ev d 51 8 lv (.int x :: st) M Q ↔ (if x = 0 then jx_Ev d 51 11 lv st M Q else jx_Ev d 51 13 lv st M Q)) ∧
  (∀ (d : Nat) (lv : List (Option Value)) (st : List Value) (M : jx_M) (Q : jx_Po), jx_Ev d 51 11 lv st M Q ↔ jx_Ev d 51 12 lv (.int (-1) :: st) M Q) ∧
  (∀ (d : Nat) (lv : List (Option Value)) (M : jx_M) (Q : jx_Po) (x : Int32), jx_Ev d 51 12 lv [.int x] M Q ↔ Q [.int x] M) ∧
  (∀ (d : Nat) (lv : List (Option Value)) (st : List Value) (M : jx_M) (Q : jx_Po), jx_Ev d 51 13 lv st M Q ↔ jx_Ev d 51 15 lv (.int 9 :: st) M Q) ∧
  (∀ (d : Nat) (st : List Value) (M : jx_M) (Q : jx_Po) (l0 l1 l2 : Option Value) (x : Int32), jx_Ev d 51 15 [l0, l1, l2] (.int x :: st) M Q ↔ jx_Ev d 51 16 [l0, l1, some (.int x)] st M Q) ∧
  (∀ (d : Nat) (lv : List (Option Value)) (st : List Value) (M : jx_M) (Q : jx_Po) (x : Int32), jx_Ev d 51 17 lv (.int x :: st) M Q ↔ (if x < 0 then jx_Ev d 51 49 lv st M Q else jx_Ev d 51 20 lv st M Q)) ∧
  (∀ (d : Nat) (st : List Value) (M : jx_M) (Q : jx_Po) (l1 l2 : Option Value) (x : Nat), jx_Ev d 51 20 [some (.ref x), l1, l2] st M Q ↔ jx_Ev d 51 21 [some (.ref x), l1, l2] (.ref x :: st) M Q) ∧
  (∀ (d : Nat) (lv : List (Option Value)) (st : List Value) (M : jx_M) (Q : jx_Po), jx_Ev d 51 21 lv (.ref 0 :: st) M Q ↔ jx_Ev d 51 24 lv (jx_rv (M 0 6) :: st) M Q) ∧
  (∀ (d : Nat) (st : List Value) (M : jx_M) (Q : jx_Po) (l0 l2 : Option Value) (x : Int32), jx_Ev d 51 24 [l0, some (.int x), l2] st M Q ↔ jx_Ev d 51 25 [l0, some (.int x), l2] (.int x :: st) M Q) ∧
  (∀ (d : Nat) (st : List Value) (M : jx_M) (Q : jx_Po) (l0 l1 : Option Value) (x : Int32), jx_Ev d 51 25 [l0, l1, some (.int x)] st M Q ↔ jx_Ev d 51 26 [l0, l1, some (.int x)] (.int x :: st) M Q) ∧
  (∀ (d : Nat) (st : List Value) (M : jx_M) (Q : jx_Po) (l1 l2 : Option Value) (x : Nat), jx_Ev d 51 26 [some (.ref x), l1, l2] st M Q ↔ jx_Ev d 51 27 [some (.ref x), l1, l2] (.ref x :: st) M Q) ∧
  (∀ (d : Nat) (lv : List (Option Value)) (st : List Value) (M : jx_M) (Q : jx_Po), jx_Ev d 51 27 lv (.ref 0 :: st) M Q ↔ jx_Ev d 51 30 lv (jx_rv (M 0 6) :: st) M Q) ∧
  (∀ (d : Nat) (lv : List (Option Value)) (M : jx_M) (Q : jx_Po) (a0 : Nat) (a1 : Int32) (a2 : Int32) (a3 : Nat) (hk : jx_cl a0 = 1), jx_Ev (d + 1) 51 30 lv [.ref a0, .int a1, .int a2, .ref a3] M Q ↔ jx_I d 9 [.ref a0] M (fun x M => jx_Ev (d + 1) 51 33 lv (.int x :: [.int a1, .int a2, .ref a3]) M Q)) ∧
  (∀ (d : Nat) (lv : List (Option Value)) (M : jx_M) (Q : jx_Po) (a0 : Int32) (a1 : Int32) (a2 : Int32) (a3 : Nat) (hk : jx_cl a3 = 1), jx_Ev (d + 1) 51 33 lv [.int a0, .int a1, .int a2, .ref a3] M Q ↔ jx_I d 11 [.ref a3, .int a2, .int a1, .int a0] M (fun x M => jx_Ev (d + 1) 51 36 lv (.int x :: []) M Q)) ∧
  (∀ (d : Nat) (lv : List (Option Value)) (st : List Value) (M : jx_M) (Q : jx_Po), jx_Ev d 51 36 lv st M Q ↔ jx_Ev d 51 38 lv (.int (-9) :: st) M Q) ∧
  (∀ (d : Nat) (lv : List (Option Value)) (st : List Value) (M : jx_M) (Q : jx_Po) (x z : Int32), jx_Ev d 51 38 lv (.int z :: .int x :: st) M Q ↔ (if x = z then jx_Ev d 51 43 lv st M Q else jx_Ev d 51 41 lv st M Q)) ∧
  (∀ (d : Nat) (st : List Value) (M : jx_M) (Q : jx_Po) (l0 l1 : Option Value) (x : Int32), jx_Ev d 51 41 [l0, l1, some (.int x)] st M Q ↔ jx_Ev d 51 42 [l0, l1, some (.int x)] (.int x :: st) M Q) ∧
  (∀ (d : Nat) (lv : List (Option Value)) (M : jx_M) (Q : jx_Po) (x : Int32), jx_Ev d 51 42 lv [.int x] M Q ↔ Q [.int x] M) ∧
  (∀ (d : Nat) (st : List Value) (M : jx_M) (Q : jx_Po) (l0 l1 : Option Value) (x : Int32), jx_Ev d 51 43 [l0, l1, some (.int x)] st M Q ↔ jx_Ev d 51 46 [l0, l1, some (.int (x + (-1)))] st M Q) ∧
  (∀ (d : Nat) (lv : List (Option Value)) (st : List Value) (M : jx_M) (Q : jx_Po), jx_Ev d 51 46 lv st M Q ↔ jx_Ev d 51 16 lv st M Q) ∧
  (∀ (d : Nat) (lv : List (Option Value)) (st : List Value) (M : jx_M) (Q : jx_Po), jx_Ev d 51 49 lv st M Q ↔ jx_Ev d 51 51 lv (.int (-9) :: st) M Q) ∧
  (∀ (d : Nat) (lv : List (Option Value)) (M : jx_M) (Q : jx_Po) (x : Int32), jx_Ev d 51 51 lv [.int x] M Q ↔ Q [.int x] M) := by
  refine ⟨?_, ?_, ?_, ?_, ?_, ?_, ?_, ?_, ?_, ?_, ?_, ?_, ?_, ?_, ?_, ?_, ?_, ?_, ?_, ?_, ?_, ?_, ?_, ?_, ?_, ?_⟩
  · exact fun d st M Q l1 l2 x => jx_ev_st (jx_fok (by decide +kernel : decode (jx_mb 51) 0 = .ok (.aload_n 0, 1))) rfl rfl rfl
  · exact fun d lv st M Q => jx_k_gf (jx_fok (by decide +kernel : decode (jx_mb 51) 1 = .ok (.getfield 55, 3))) rfl rfl rfl
  · exact fun d st M Q l0 l2 x => jx_ev_st (jx_fok (by decide +kernel : decode (jx_mb 51) 4 = .ok (.iload_n 1, 1))) rfl rfl rfl
  · exact fun d lv M Q a0 a1 hk => jx_ev_ci (jx_fok (by decide +kernel : decode (jx_mb 51) 5 = .ok (.invokevirtual 111, 3))) rfl (jx_ccV (As := [.int a0]) (rest := []) rfl rfl rfl hk rfl rfl) (by decide)
  · exact fun d lv st M Q x => jx_k_b1n (jx_fok (by decide +kernel : decode (jx_mb 51) 8 = .ok (.ifCond .ne 5, 3))) rfl jx_hNe
  · exact fun d lv st M Q => jx_ev_st (jx_fok (by decide +kernel : decode (jx_mb 51) 11 = .ok (.iconst (-1), 1))) rfl rfl rfl
  · exact fun d lv M Q x => jx_k_ri (jx_fok (by decide +kernel : decode (jx_mb 51) 12 = .ok (.ireturn, 1))) rfl
  · exact fun d lv st M Q => jx_ev_st (jx_fok (by decide +kernel : decode (jx_mb 51) 13 = .ok (.bipush 9, 2))) rfl rfl rfl
  · exact fun d st M Q l0 l1 l2 x => jx_ev_st (jx_fok (by decide +kernel : decode (jx_mb 51) 15 = .ok (.istore_n 2, 1))) rfl rfl rfl
  · exact fun d lv st M Q x => jx_k_b1 (jx_fok (by decide +kernel : decode (jx_mb 51) 17 = .ok (.ifCond .lt 32, 3))) rfl jx_hLt
  · exact fun d st M Q l1 l2 x => jx_ev_st (jx_fok (by decide +kernel : decode (jx_mb 51) 20 = .ok (.aload_n 0, 1))) rfl rfl rfl
  · exact fun d lv st M Q => jx_k_gf (jx_fok (by decide +kernel : decode (jx_mb 51) 21 = .ok (.getfield 55, 3))) rfl rfl rfl
  · exact fun d st M Q l0 l2 x => jx_ev_st (jx_fok (by decide +kernel : decode (jx_mb 51) 24 = .ok (.iload_n 1, 1))) rfl rfl rfl
  · exact fun d st M Q l0 l1 x => jx_ev_st (jx_fok (by decide +kernel : decode (jx_mb 51) 25 = .ok (.iload_n 2, 1))) rfl rfl rfl
  · exact fun d st M Q l1 l2 x => jx_ev_st (jx_fok (by decide +kernel : decode (jx_mb 51) 26 = .ok (.aload_n 0, 1))) rfl rfl rfl
  · exact fun d lv st M Q => jx_k_gf (jx_fok (by decide +kernel : decode (jx_mb 51) 27 = .ok (.getfield 55, 3))) rfl rfl rfl
  · exact fun d lv M Q a0 a1 a2 a3 hk => jx_ev_ci (jx_fok (by decide +kernel : decode (jx_mb 51) 30 = .ok (.invokevirtual 137, 3))) rfl (jx_ccV (As := []) (rest := [.int a1, .int a2, .ref a3]) rfl rfl rfl hk rfl rfl) (by decide)
  · exact fun d lv M Q a0 a1 a2 a3 hk => jx_ev_ci (jx_fok (by decide +kernel : decode (jx_mb 51) 33 = .ok (.invokevirtual 141, 3))) rfl (jx_ccV (As := [.int a2, .int a1, .int a0]) (rest := []) rfl rfl rfl hk rfl rfl) (by decide)
  · exact fun d lv st M Q => jx_ev_st (jx_fok (by decide +kernel : decode (jx_mb 51) 36 = .ok (.bipush (-9), 2))) rfl rfl rfl
  · exact fun d lv st M Q x z => jx_k_b2 (jx_fok (by decide +kernel : decode (jx_mb 51) 38 = .ok (.if_icmp .eq 5, 3))) rfl jx_hEq
  · exact fun d st M Q l0 l1 x => jx_ev_st (jx_fok (by decide +kernel : decode (jx_mb 51) 41 = .ok (.iload_n 2, 1))) rfl rfl rfl
  · exact fun d lv M Q x => jx_k_ri (jx_fok (by decide +kernel : decode (jx_mb 51) 42 = .ok (.ireturn, 1))) rfl
  · exact fun d st M Q l0 l1 x => jx_ev_st (jx_fok (by decide +kernel : decode (jx_mb 51) 43 = .ok (.iinc 2 (-1), 3))) rfl rfl rfl
  · exact fun d lv st M Q => jx_k_goto (jx_fok (by decide +kernel : decode (jx_mb 51) 46 = .ok (.goto (-30), 3))) rfl
  · exact fun d lv st M Q => jx_ev_st (jx_fok (by decide +kernel : decode (jx_mb 51) 49 = .ok (.bipush (-9), 2))) rfl rfl rfl
  · exact fun d lv M Q x => jx_k_ri (jx_fok (by decide +kernel : decode (jx_mb 51) 51 = .ok (.ireturn, 1))) rfl
theorem eX7_last_16 (d : Nat) (st : List Value) (M : jx_M) (Q : jx_Po) (l0 l1 : Option Value) (x : Int32) : jx_Ev d 51 16 [l0, l1, some (.int x)] st M Q ↔ jx_Ev d 51 17 [l0, l1, some (.int x)] (.int x :: st) M Q := jx_ev_st (jx_fok (by decide +kernel : decode (jx_mb 51) 16 = .ok (.iload_n 2, 1))) rfl rfl rfl
theorem kX7_last (d : Nat) (M : jx_M) (q : Int32 → jx_M → Prop) (a0 a1 : Value) : jx_I d 51 [a0, a1] M q ↔ jx_Ev d 51 0 [some a0, some a1, none] [] M (jx_qI q) := Iff.rfl
set_option maxRecDepth 100000 in
theorem eX7_open :
  (∀ (d : Nat) (st : List Value) (M : jx_M) (Q : jx_Po) (l1 l2 l3 l4 l5 l6 : Option Value) (x : Nat), jx_Ev d 52 0 [some (.ref x), l1, l2, l3, l4, l5, l6] st M Q ↔ jx_Ev d 52 1 [some (.ref x), l1, l2, l3, l4, l5, l6] (.ref x :: st) M Q) ∧
  (∀ (d : Nat) (lv : List (Option Value)) (st : List Value) (M : jx_M) (Q : jx_Po), jx_Ev d 52 1 lv st M Q ↔ jx_Ev d 52 2 lv (.int 0 :: st) M Q) ∧
  (∀ (d : Nat) (lv : List (Option Value)) (st : List Value) (M : jx_M) (Q : jx_Po) (x : Int32), jx_Ev d 52 2 lv (.int x :: .ref 0 :: st) M Q ↔ jx_Ev d 52 5 lv st (jx_up M 0 9 x) Q) ∧
  (∀ (d : Nat) (st : List Value) (M : jx_M) (Q : jx_Po) (l0 l2 l3 l4 l5 l6 : Option Value) (x : Int32), jx_Ev d 52 5 [l0, some (.int x), l2, l3, l4, l5, l6] st M Q ↔ jx_Ev d 52 6 [l0, some (.int x), l2, l3, l4, l5, l6] (.int x :: st) M Q) ∧
  (∀ (d : Nat) (lv : List (Option Value)) (M : jx_M) (Q : jx_Po) (a0 : Int32), jx_Ev (d + 1) 52 6 lv [.int a0] M Q ↔ jx_I d 79 [.int a0] M (fun x M => jx_Ev (d + 1) 52 9 lv (.int x :: []) M Q)) ∧
  (∀ (d : Nat) (lv : List (Option Value)) (st : List Value) (M : jx_M) (Q : jx_Po) (x : Int32), jx_Ev d 52 9 lv (.int x :: st) M Q ↔ (if x = 0 then jx_Ev d 52 12 lv st M Q else jx_Ev d 52 14 lv st M Q)) ∧
  (∀ (d : Nat) (lv : List (Option Value)) (st : List Value) (M : jx_M) (Q : jx_Po), jx_Ev d 52 12 lv st M Q ↔ jx_Ev d 52 13 lv (.int (-1) :: st) M Q) ∧
  (∀ (d : Nat) (lv : List (Option Value)) (M : jx_M) (Q : jx_Po) (x : Int32), jx_Ev d 52 13 lv [.int x] M Q ↔ Q [.int x] M) ∧
  (∀ (d : Nat) (st : List Value) (M : jx_M) (Q : jx_Po) (l0 l1 l3 l4 l5 l6 : Option Value) (x : Int32), jx_Ev d 52 14 [l0, l1, some (.int x), l3, l4, l5, l6] st M Q ↔ jx_Ev d 52 15 [l0, l1, some (.int x), l3, l4, l5, l6] (.int x :: st) M Q) ∧
  (∀ (d : Nat) (lv : List (Option Value)) (M : jx_M) (Q : jx_Po) (a0 : Int32), jx_Ev (d + 1) 52 15 lv [.int a0] M Q ↔ jx_I d 80 [.int a0] M (fun x M => jx_Ev (d + 1) 52 18 lv (.int x :: []) M Q)) ∧
  (∀ (d : Nat) (lv : List (Option Value)) (st : List Value) (M : jx_M) (Q : jx_Po) (x : Int32), jx_Ev d 52 18 lv (.int x :: st) M Q ↔ (if x = 0 then jx_Ev d 52 29 lv st M Q else jx_Ev d 52 21 lv st M Q)) ∧
  (∀ (d : Nat) (st : List Value) (M : jx_M) (Q : jx_Po) (l0 l1 l2 l3 l4 l6 : Option Value) (x : Int32), jx_Ev d 52 21 [l0, l1, l2, l3, l4, some (.int x), l6] st M Q ↔ jx_Ev d 52 23 [l0, l1, l2, l3, l4, some (.int x), l6] (.int x :: st) M Q) ∧
  (∀ (d : Nat) (lv : List (Option Value)) (M : jx_M) (Q : jx_Po) (a0 : Int32), jx_Ev (d + 1) 52 23 lv [.int a0] M Q ↔ jx_I d 53 [.int a0] M (fun x M => jx_Ev (d + 1) 52 26 lv (.int x :: []) M Q)) ∧
  (∀ (d : Nat) (lv : List (Option Value)) (st : List Value) (M : jx_M) (Q : jx_Po) (x : Int32), jx_Ev d 52 26 lv (.int x :: st) M Q ↔ (if x = 0 then jx_Ev d 52 29 lv st M Q else jx_Ev d 52 32 lv st M Q)) ∧
  (∀ (d : Nat) (lv : List (Option Value)) (st : List Value) (M : jx_M) (Q : jx_Po), jx_Ev d 52 29 lv st M Q ↔ jx_Ev d 52 31 lv (.int (-2) :: st) M Q) ∧
  (∀ (d : Nat) (lv : List (Option Value)) (M : jx_M) (Q : jx_Po) (x : Int32), jx_Ev d 52 31 lv [.int x] M Q ↔ Q [.int x] M) ∧
  (∀ (d : Nat) (st : List Value) (M : jx_M) (Q : jx_Po) (l1 l2 l3 l4 l5 l6 : Option Value) (x : Nat), jx_Ev d 52 32 [some (.ref x), l1, l2, l3, l4, l5, l6] st M Q ↔ jx_Ev d 52 33 [some (.ref x), l1, l2, l3, l4, l5, l6] (.ref x :: st) M Q) ∧
  (∀ (d : Nat) (lv : List (Option Value)) (st : List Value) (M : jx_M) (Q : jx_Po), jx_Ev d 52 33 lv (.ref 0 :: st) M Q ↔ jx_Ev d 52 36 lv (.ref 1 :: st) M Q) ∧
  (∀ (d : Nat) (st : List Value) (M : jx_M) (Q : jx_Po) (l0 l2 l3 l4 l5 l6 : Option Value) (x : Int32), jx_Ev d 52 36 [l0, some (.int x), l2, l3, l4, l5, l6] st M Q ↔ jx_Ev d 52 37 [l0, some (.int x), l2, l3, l4, l5, l6] (.int x :: st) M Q) ∧
  (∀ (d : Nat) (lv : List (Option Value)) (st : List Value) (M : jx_M) (Q : jx_Po) (x : Int32), jx_Ev d 52 37 lv (.int x :: .ref 1 :: st) M Q ↔ (vp_in x 4 ∧ jx_Ev d 52 38 lv (.ref (jx_sp x) :: st) M Q)) ∧
  (∀ (d : Nat) (st : List Value) (M : jx_M) (Q : jx_Po) (l0 l1 l3 l4 l5 l6 : Option Value) (x : Int32), jx_Ev d 52 38 [l0, l1, some (.int x), l3, l4, l5, l6] st M Q ↔ jx_Ev d 52 39 [l0, l1, some (.int x), l3, l4, l5, l6] (.int x :: st) M Q) ∧
  (∀ (d : Nat) (st : List Value) (M : jx_M) (Q : jx_Po) (l0 l1 l2 l4 l5 l6 : Option Value) (x : Int32), jx_Ev d 52 39 [l0, l1, l2, some (.int x), l4, l5, l6] st M Q ↔ jx_Ev d 52 40 [l0, l1, l2, some (.int x), l4, l5, l6] (.int x :: st) M Q) ∧
  (∀ (d : Nat) (st : List Value) (M : jx_M) (Q : jx_Po) (l0 l1 l2 l3 l5 l6 : Option Value) (x : Int32), jx_Ev d 52 40 [l0, l1, l2, l3, some (.int x), l5, l6] st M Q ↔ jx_Ev d 52 42 [l0, l1, l2, l3, some (.int x), l5, l6] (.int x :: st) M Q) ∧
  (∀ (d : Nat) (lv : List (Option Value)) (M : jx_M) (Q : jx_Po) (a0 : Int32) (a1 : Int32) (a2 : Int32) (a3 : Nat) (hk : jx_cl a3 = 4), jx_Ev (d + 1) 52 42 lv [.int a0, .int a1, .int a2, .ref a3] M Q ↔ jx_I d 22 [.ref a3, .int a2, .int a1, .int a0] M (fun x M => jx_Ev (d + 1) 52 45 lv (.int x :: []) M Q)) ∧
  (∀ (d : Nat) (st : List Value) (M : jx_M) (Q : jx_Po) (l0 l1 l2 l3 l4 l5 l6 : Option Value) (x : Int32), jx_Ev d 52 45 [l0, l1, l2, l3, l4, l5, l6] (.int x :: st) M Q ↔ jx_Ev d 52 47 [l0, l1, l2, l3, l4, l5, some (.int x)] st M Q) ∧
  (∀ (d : Nat) (st : List Value) (M : jx_M) (Q : jx_Po) (l0 l1 l2 l3 l4 l5 : Option Value) (x : Int32), jx_Ev d 52 47 [l0, l1, l2, l3, l4, l5, some (.int x)] st M Q ↔ jx_Ev d 52 49 [l0, l1, l2, l3, l4, l5, some (.int x)] (.int x :: st) M Q) ∧
  (∀ (d : Nat) (lv : List (Option Value)) (st : List Value) (M : jx_M) (Q : jx_Po) (x : Int32), jx_Ev d 52 49 lv (.int x :: st) M Q ↔ (if x = 0 then jx_Ev d 52 59 lv st M Q else jx_Ev d 52 52 lv st M Q)) ∧
  (∀ (d : Nat) (st : List Value) (M : jx_M) (Q : jx_Po) (l1 l2 l3 l4 l5 l6 : Option Value) (x : Nat), jx_Ev d 52 52 [some (.ref x), l1, l2, l3, l4, l5, l6] st M Q ↔ jx_Ev d 52 53 [some (.ref x), l1, l2, l3, l4, l5, l6] (.ref x :: st) M Q) ∧
  (∀ (d : Nat) (st : List Value) (M : jx_M) (Q : jx_Po) (l0 l1 l2 l3 l4 l5 : Option Value) (x : Int32), jx_Ev d 52 53 [l0, l1, l2, l3, l4, l5, some (.int x)] st M Q ↔ jx_Ev d 52 55 [l0, l1, l2, l3, l4, l5, some (.int x)] (.int x :: st) M Q) ∧
  (∀ (d : Nat) (lv : List (Option Value)) (M : jx_M) (Q : jx_Po) (a0 : Int32), jx_Ev (d + 1) 52 55 lv [.int a0, .ref 0] M Q ↔ jx_I d 82 [.ref 0, .int a0] M (fun x M => jx_Ev (d + 1) 52 58 lv (.int x :: []) M Q)) ∧
  (∀ (d : Nat) (lv : List (Option Value)) (M : jx_M) (Q : jx_Po) (x : Int32), jx_Ev d 52 58 lv [.int x] M Q ↔ Q [.int x] M) ∧
  (∀ (d : Nat) (st : List Value) (M : jx_M) (Q : jx_Po) (l1 l2 l3 l4 l5 l6 : Option Value) (x : Nat), jx_Ev d 52 59 [some (.ref x), l1, l2, l3, l4, l5, l6] st M Q ↔ jx_Ev d 52 60 [some (.ref x), l1, l2, l3, l4, l5, l6] (.ref x :: st) M Q) ∧
  (∀ (d : Nat) (lv : List (Option Value)) (st : List Value) (M : jx_M) (Q : jx_Po), jx_Ev d 52 60 lv (.ref 0 :: st) M Q ↔ jx_Ev d 52 63 lv (jx_rv (M 0 6) :: st) M Q) ∧
  (∀ (d : Nat) (lv : List (Option Value)) (M : jx_M) (Q : jx_Po) (a0 : Nat) (hk : jx_cl a0 = 1), jx_Ev (d + 1) 52 63 lv [.ref a0] M Q ↔ jx_I d 4 [.ref a0] M (fun x M => jx_Ev (d + 1) 52 66 lv (.int x :: []) M Q)) ∧
  (∀ (d : Nat) (lv : List (Option Value)) (st : List Value) (M : jx_M) (Q : jx_Po) (x : Int32), jx_Ev d 52 66 lv (.int x :: st) M Q ↔ (if x = 0 then jx_Ev d 52 69 lv st M Q else jx_Ev d 52 72 lv st M Q)) ∧
  (∀ (d : Nat) (lv : List (Option Value)) (st : List Value) (M : jx_M) (Q : jx_Po), jx_Ev d 52 69 lv st M Q ↔ jx_Ev d 52 71 lv (.int (-3) :: st) M Q) ∧
  (∀ (d : Nat) (lv : List (Option Value)) (M : jx_M) (Q : jx_Po) (x : Int32), jx_Ev d 52 71 lv [.int x] M Q ↔ Q [.int x] M) ∧
  (∀ (d : Nat) (st : List Value) (M : jx_M) (Q : jx_Po) (l0 l1 l2 l3 l5 l6 : Option Value) (x : Int32), jx_Ev d 52 72 [l0, l1, l2, l3, some (.int x), l5, l6] st M Q ↔ jx_Ev d 52 74 [l0, l1, l2, l3, some (.int x), l5, l6] (.int x :: st) M Q) ∧
  (∀ (d : Nat) (st : List Value) (M : jx_M) (Q : jx_Po) (l1 l2 l3 l4 l5 l6 : Option Value) (x : Nat), jx_Ev d 52 74 [some (.ref x), l1, l2, l3, l4, l5, l6] st M Q ↔ jx_Ev d 52 75 [some (.ref x), l1, l2, l3, l4, l5, l6] (.ref x :: st) M Q) ∧
  (∀ (d : Nat) (lv : List (Option Value)) (st : List Value) (M : jx_M) (Q : jx_Po), jx_Ev d 52 75 lv (.ref 0 :: st) M Q ↔ jx_Ev d 52 78 lv (jx_rv (M 0 6) :: st) M Q) ∧
  (∀ (d : Nat) (lv : List (Option Value)) (st : List Value) (M : jx_M) (Q : jx_Po) (k : Nat) (hk : jx_cl k = 1), jx_Ev d 52 78 lv (.ref k :: st) M Q ↔ jx_Ev d 52 81 lv (.int (M k 6) :: st) M Q) ∧
  (∀ (d : Nat) (lv : List (Option Value)) (st : List Value) (M : jx_M) (Q : jx_Po) (x z : Int32), jx_Ev d 52 81 lv (.int z :: .int x :: st) M Q ↔ (if x = z then jx_Ev d 52 84 lv st M Q else jx_Ev d 52 103 lv st M Q)) ∧
  (∀ (d : Nat) (st : List Value) (M : jx_M) (Q : jx_Po) (l1 l2 l3 l4 l5 l6 : Option Value) (x : Nat), jx_Ev d 52 84 [some (.ref x), l1, l2, l3, l4, l5, l6] st M Q ↔ jx_Ev d 52 85 [some (.ref x), l1, l2, l3, l4, l5, l6] (.ref x :: st) M Q) ∧
  (∀ (d : Nat) (lv : List (Option Value)) (st : List Value) (M : jx_M) (Q : jx_Po), jx_Ev d 52 85 lv (.ref 0 :: st) M Q ↔ jx_Ev d 52 88 lv (.ref 7 :: st) M Q) ∧
  (∀ (d : Nat) (st : List Value) (M : jx_M) (Q : jx_Po) (l1 l2 l3 l4 l5 l6 : Option Value) (x : Nat), jx_Ev d 52 88 [some (.ref x), l1, l2, l3, l4, l5, l6] st M Q ↔ jx_Ev d 52 89 [some (.ref x), l1, l2, l3, l4, l5, l6] (.ref x :: st) M Q) ∧
  (∀ (d : Nat) (lv : List (Option Value)) (st : List Value) (M : jx_M) (Q : jx_Po), jx_Ev d 52 89 lv (.ref 0 :: st) M Q ↔ jx_Ev d 52 92 lv (.ref 1 :: st) M Q) ∧
  (∀ (d : Nat) (st : List Value) (M : jx_M) (Q : jx_Po) (l0 l2 l3 l4 l5 l6 : Option Value) (x : Int32), jx_Ev d 52 92 [l0, some (.int x), l2, l3, l4, l5, l6] st M Q ↔ jx_Ev d 52 93 [l0, some (.int x), l2, l3, l4, l5, l6] (.int x :: st) M Q) ∧
  (∀ (d : Nat) (lv : List (Option Value)) (st : List Value) (M : jx_M) (Q : jx_Po) (x : Int32), jx_Ev d 52 93 lv (.int x :: .ref 1 :: st) M Q ↔ (vp_in x 4 ∧ jx_Ev d 52 94 lv (.ref (jx_sp x) :: st) M Q)) ∧
  (∀ (d : Nat) (st : List Value) (M : jx_M) (Q : jx_Po) (l0 l1 l2 l4 l5 l6 : Option Value) (x : Int32), jx_Ev d 52 94 [l0, l1, l2, some (.int x), l4, l5, l6] st M Q ↔ jx_Ev d 52 95 [l0, l1, l2, some (.int x), l4, l5, l6] (.int x :: st) M Q) ∧
  (∀ (d : Nat) (st : List Value) (M : jx_M) (Q : jx_Po) (l0 l1 l2 l3 l5 l6 : Option Value) (x : Int32), jx_Ev d 52 95 [l0, l1, l2, l3, some (.int x), l5, l6] st M Q ↔ jx_Ev d 52 97 [l0, l1, l2, l3, some (.int x), l5, l6] (.int x :: st) M Q) ∧
  (∀ (d : Nat) (lv : List (Option Value)) (M : jx_M) (Q : jx_Po) (a0 : Int32) (a1 : Int32) (a2 : Nat), jx_Ev (d + 1) 52 97 lv [.int a0, .int a1, .ref a2, .ref 7] M Q ↔ jx_I d 12 [.ref 7, .ref a2, .int a1, .int a0] M (fun x M => jx_Ev (d + 1) 52 100 lv (.int x :: []) M Q)) ∧
  (∀ (d : Nat) (lv : List (Option Value)) (st : List Value) (M : jx_M) (Q : jx_Po) (x : Int32), jx_Ev d 52 100 lv (.int x :: st) M Q ↔ (if x = 0 then jx_Ev d 52 103 lv st M Q else jx_Ev d 52 106 lv st M Q)) ∧
  (∀ (d : Nat) (lv : List (Option Value)) (st : List Value) (M : jx_M) (Q : jx_Po), jx_Ev d 52 103 lv st M Q ↔ jx_Ev d 52 105 lv (.int (-2) :: st) M Q) ∧
  (∀ (d : Nat) (lv : List (Option Value)) (M : jx_M) (Q : jx_Po) (x : Int32), jx_Ev d 52 105 lv [.int x] M Q ↔ Q [.int x] M) ∧
  (∀ (d : Nat) (st : List Value) (M : jx_M) (Q : jx_Po) (l1 l2 l3 l4 l5 l6 : Option Value) (x : Nat), jx_Ev d 52 106 [some (.ref x), l1, l2, l3, l4, l5, l6] st M Q ↔ jx_Ev d 52 107 [some (.ref x), l1, l2, l3, l4, l5, l6] (.ref x :: st) M Q) ∧
  (∀ (d : Nat) (st : List Value) (M : jx_M) (Q : jx_Po) (l0 l1 l2 l3 l4 l6 : Option Value) (x : Int32), jx_Ev d 52 107 [l0, l1, l2, l3, l4, some (.int x), l6] st M Q ↔ jx_Ev d 52 109 [l0, l1, l2, l3, l4, some (.int x), l6] (.int x :: st) M Q) ∧
  (∀ (d : Nat) (lv : List (Option Value)) (M : jx_M) (Q : jx_Po) (a0 : Int32), jx_Ev (d + 1) 52 109 lv [.int a0, .ref 0] M Q ↔ jx_I d 54 [.ref 0, .int a0] M (fun x M => jx_Ev (d + 1) 52 112 lv (.int x :: []) M Q)) ∧
  (∀ (d : Nat) (lv : List (Option Value)) (M : jx_M) (Q : jx_Po) (x : Int32), jx_Ev d 52 112 lv [.int x] M Q ↔ Q [.int x] M) := by
  refine ⟨?_, ?_, ?_, ?_, ?_, ?_, ?_, ?_, ?_, ?_, ?_, ?_, ?_, ?_, ?_, ?_, ?_, ?_, ?_, ?_, ?_, ?_, ?_, ?_, ?_, ?_, ?_, ?_, ?_, ?_, ?_, ?_, ?_, ?_, ?_, ?_, ?_, ?_, ?_, ?_, ?_, ?_, ?_, ?_, ?_, ?_, ?_, ?_, ?_, ?_, ?_, ?_, ?_, ?_, ?_, ?_, ?_, ?_⟩
  · exact fun d st M Q l1 l2 l3 l4 l5 l6 x => jx_ev_st (jx_fok (by decide +kernel : decode (jx_mb 52) 0 = .ok (.aload_n 0, 1))) rfl rfl rfl
  · exact fun d lv st M Q => jx_ev_st (jx_fok (by decide +kernel : decode (jx_mb 52) 1 = .ok (.iconst 0, 1))) rfl rfl rfl
  · exact fun d lv st M Q x => jx_k_pf0 (jx_fok (by decide +kernel : decode (jx_mb 52) 2 = .ok (.putfield 66, 3))) rfl rfl rfl
  · exact fun d st M Q l0 l2 l3 l4 l5 l6 x => jx_ev_st (jx_fok (by decide +kernel : decode (jx_mb 52) 5 = .ok (.iload_n 1, 1))) rfl rfl rfl
  · exact fun d lv M Q a0 => jx_ev_ci (jx_fok (by decide +kernel : decode (jx_mb 52) 6 = .ok (.invokestatic 70, 3))) rfl (jx_ccS (As := [.int a0]) (rest := []) rfl rfl rfl rfl rfl) (by decide)
  · exact fun d lv st M Q x => jx_k_b1n (jx_fok (by decide +kernel : decode (jx_mb 52) 9 = .ok (.ifCond .ne 5, 3))) rfl jx_hNe
  · exact fun d lv st M Q => jx_ev_st (jx_fok (by decide +kernel : decode (jx_mb 52) 12 = .ok (.iconst (-1), 1))) rfl rfl rfl
  · exact fun d lv M Q x => jx_k_ri (jx_fok (by decide +kernel : decode (jx_mb 52) 13 = .ok (.ireturn, 1))) rfl
  · exact fun d st M Q l0 l1 l3 l4 l5 l6 x => jx_ev_st (jx_fok (by decide +kernel : decode (jx_mb 52) 14 = .ok (.iload_n 2, 1))) rfl rfl rfl
  · exact fun d lv M Q a0 => jx_ev_ci (jx_fok (by decide +kernel : decode (jx_mb 52) 15 = .ok (.invokestatic 74, 3))) rfl (jx_ccS (As := [.int a0]) (rest := []) rfl rfl rfl rfl rfl) (by decide)
  · exact fun d lv st M Q x => jx_k_b1 (jx_fok (by decide +kernel : decode (jx_mb 52) 18 = .ok (.ifCond .eq 11, 3))) rfl jx_hEq
  · exact fun d st M Q l0 l1 l2 l3 l4 l6 x => jx_ev_st (jx_fok (by decide +kernel : decode (jx_mb 52) 21 = .ok (.iload 5, 2))) rfl rfl rfl
  · exact fun d lv M Q a0 => jx_ev_ci (jx_fok (by decide +kernel : decode (jx_mb 52) 23 = .ok (.invokestatic 144, 3))) rfl (jx_ccS (As := [.int a0]) (rest := []) rfl rfl rfl rfl rfl) (by decide)
  · exact fun d lv st M Q x => jx_k_b1n (jx_fok (by decide +kernel : decode (jx_mb 52) 26 = .ok (.ifCond .ne 6, 3))) rfl jx_hNe
  · exact fun d lv st M Q => jx_ev_st (jx_fok (by decide +kernel : decode (jx_mb 52) 29 = .ok (.bipush (-2), 2))) rfl rfl rfl
  · exact fun d lv M Q x => jx_k_ri (jx_fok (by decide +kernel : decode (jx_mb 52) 31 = .ok (.ireturn, 1))) rfl
  · exact fun d st M Q l1 l2 l3 l4 l5 l6 x => jx_ev_st (jx_fok (by decide +kernel : decode (jx_mb 52) 32 = .ok (.aload_n 0, 1))) rfl rfl rfl
  · exact fun d lv st M Q => jx_k_gf (jx_fok (by decide +kernel : decode (jx_mb 52) 33 = .ok (.getfield 13, 3))) rfl rfl rfl
  · exact fun d st M Q l0 l2 l3 l4 l5 l6 x => jx_ev_st (jx_fok (by decide +kernel : decode (jx_mb 52) 36 = .ok (.iload_n 1, 1))) rfl rfl rfl
  · exact fun d lv st M Q x => jx_k_aa (jx_fok (by decide +kernel : decode (jx_mb 52) 37 = .ok (.aaload, 1)))
  · exact fun d st M Q l0 l1 l3 l4 l5 l6 x => jx_ev_st (jx_fok (by decide +kernel : decode (jx_mb 52) 38 = .ok (.iload_n 2, 1))) rfl rfl rfl
  · exact fun d st M Q l0 l1 l2 l4 l5 l6 x => jx_ev_st (jx_fok (by decide +kernel : decode (jx_mb 52) 39 = .ok (.iload_n 3, 1))) rfl rfl rfl
  · exact fun d st M Q l0 l1 l2 l3 l5 l6 x => jx_ev_st (jx_fok (by decide +kernel : decode (jx_mb 52) 40 = .ok (.iload 4, 2))) rfl rfl rfl
  · exact fun d lv M Q a0 a1 a2 a3 hk => jx_ev_ci (jx_fok (by decide +kernel : decode (jx_mb 52) 42 = .ok (.invokevirtual 77, 3))) rfl (jx_ccV (As := [.int a2, .int a1, .int a0]) (rest := []) rfl rfl rfl hk rfl rfl) (by decide)
  · exact fun d st M Q l0 l1 l2 l3 l4 l5 l6 x => jx_ev_st (jx_fok (by decide +kernel : decode (jx_mb 52) 45 = .ok (.istore 6, 2))) rfl rfl rfl
  · exact fun d st M Q l0 l1 l2 l3 l4 l5 x => jx_ev_st (jx_fok (by decide +kernel : decode (jx_mb 52) 47 = .ok (.iload 6, 2))) rfl rfl rfl
  · exact fun d lv st M Q x => jx_k_b1 (jx_fok (by decide +kernel : decode (jx_mb 52) 49 = .ok (.ifCond .eq 10, 3))) rfl jx_hEq
  · exact fun d st M Q l1 l2 l3 l4 l5 l6 x => jx_ev_st (jx_fok (by decide +kernel : decode (jx_mb 52) 52 = .ok (.aload_n 0, 1))) rfl rfl rfl
  · exact fun d st M Q l0 l1 l2 l3 l4 l5 x => jx_ev_st (jx_fok (by decide +kernel : decode (jx_mb 52) 53 = .ok (.iload 6, 2))) rfl rfl rfl
  · exact fun d lv M Q a0 => jx_ev_ci (jx_fok (by decide +kernel : decode (jx_mb 52) 55 = .ok (.invokevirtual 81, 3))) rfl (jx_ccV (As := [.int a0]) (rest := []) rfl rfl rfl rfl rfl rfl) (by decide)
  · exact fun d lv M Q x => jx_k_ri (jx_fok (by decide +kernel : decode (jx_mb 52) 58 = .ok (.ireturn, 1))) rfl
  · exact fun d st M Q l1 l2 l3 l4 l5 l6 x => jx_ev_st (jx_fok (by decide +kernel : decode (jx_mb 52) 59 = .ok (.aload_n 0, 1))) rfl rfl rfl
  · exact fun d lv st M Q => jx_k_gf (jx_fok (by decide +kernel : decode (jx_mb 52) 60 = .ok (.getfield 55, 3))) rfl rfl rfl
  · exact fun d lv M Q a0 hk => jx_ev_ci (jx_fok (by decide +kernel : decode (jx_mb 52) 63 = .ok (.invokevirtual 123, 3))) rfl (jx_ccV (As := []) (rest := []) rfl rfl rfl hk rfl rfl) (by decide)
  · exact fun d lv st M Q x => jx_k_b1n (jx_fok (by decide +kernel : decode (jx_mb 52) 66 = .ok (.ifCond .ne 6, 3))) rfl jx_hNe
  · exact fun d lv st M Q => jx_ev_st (jx_fok (by decide +kernel : decode (jx_mb 52) 69 = .ok (.bipush (-3), 2))) rfl rfl rfl
  · exact fun d lv M Q x => jx_k_ri (jx_fok (by decide +kernel : decode (jx_mb 52) 71 = .ok (.ireturn, 1))) rfl
  · exact fun d st M Q l0 l1 l2 l3 l5 l6 x => jx_ev_st (jx_fok (by decide +kernel : decode (jx_mb 52) 72 = .ok (.iload 4, 2))) rfl rfl rfl
  · exact fun d st M Q l1 l2 l3 l4 l5 l6 x => jx_ev_st (jx_fok (by decide +kernel : decode (jx_mb 52) 74 = .ok (.aload_n 0, 1))) rfl rfl rfl
  · exact fun d lv st M Q => jx_k_gf (jx_fok (by decide +kernel : decode (jx_mb 52) 75 = .ok (.getfield 55, 3))) rfl rfl rfl
  · exact fun d lv st M Q k hk => jx_k_gf (jx_fok (by decide +kernel : decode (jx_mb 52) 78 = .ok (.getfield 92, 3))) rfl hk rfl
  · exact fun d lv st M Q x z => jx_k_b2n (jx_fok (by decide +kernel : decode (jx_mb 52) 81 = .ok (.if_icmp .ne 22, 3))) rfl jx_hNe
  · exact fun d st M Q l1 l2 l3 l4 l5 l6 x => jx_ev_st (jx_fok (by decide +kernel : decode (jx_mb 52) 84 = .ok (.aload_n 0, 1))) rfl rfl rfl
  · exact fun d lv st M Q => jx_k_gf (jx_fok (by decide +kernel : decode (jx_mb 52) 85 = .ok (.getfield 34, 3))) rfl rfl rfl
  · exact fun d st M Q l1 l2 l3 l4 l5 l6 x => jx_ev_st (jx_fok (by decide +kernel : decode (jx_mb 52) 88 = .ok (.aload_n 0, 1))) rfl rfl rfl
  · exact fun d lv st M Q => jx_k_gf (jx_fok (by decide +kernel : decode (jx_mb 52) 89 = .ok (.getfield 13, 3))) rfl rfl rfl
  · exact fun d st M Q l0 l2 l3 l4 l5 l6 x => jx_ev_st (jx_fok (by decide +kernel : decode (jx_mb 52) 92 = .ok (.iload_n 1, 1))) rfl rfl rfl
  · exact fun d lv st M Q x => jx_k_aa (jx_fok (by decide +kernel : decode (jx_mb 52) 93 = .ok (.aaload, 1)))
  · exact fun d st M Q l0 l1 l2 l4 l5 l6 x => jx_ev_st (jx_fok (by decide +kernel : decode (jx_mb 52) 94 = .ok (.iload_n 3, 1))) rfl rfl rfl
  · exact fun d st M Q l0 l1 l2 l3 l5 l6 x => jx_ev_st (jx_fok (by decide +kernel : decode (jx_mb 52) 95 = .ok (.iload 4, 2))) rfl rfl rfl
  · exact fun d lv M Q a0 a1 a2 => jx_ev_ci (jx_fok (by decide +kernel : decode (jx_mb 52) 97 = .ok (.invokevirtual 147, 3))) rfl (jx_ccV (As := [.ref a2, .int a1, .int a0]) (rest := []) rfl rfl rfl rfl rfl rfl) (by decide)
  · exact fun d lv st M Q x => jx_k_b1n (jx_fok (by decide +kernel : decode (jx_mb 52) 100 = .ok (.ifCond .ne 6, 3))) rfl jx_hNe
  · exact fun d lv st M Q => jx_ev_st (jx_fok (by decide +kernel : decode (jx_mb 52) 103 = .ok (.bipush (-2), 2))) rfl rfl rfl
  · exact fun d lv M Q x => jx_k_ri (jx_fok (by decide +kernel : decode (jx_mb 52) 105 = .ok (.ireturn, 1))) rfl
  · exact fun d st M Q l1 l2 l3 l4 l5 l6 x => jx_ev_st (jx_fok (by decide +kernel : decode (jx_mb 52) 106 = .ok (.aload_n 0, 1))) rfl rfl rfl
  · exact fun d st M Q l0 l1 l2 l3 l4 l6 x => jx_ev_st (jx_fok (by decide +kernel : decode (jx_mb 52) 107 = .ok (.iload 5, 2))) rfl rfl rfl
  · exact fun d lv M Q a0 => jx_ev_ci (jx_fok (by decide +kernel : decode (jx_mb 52) 109 = .ok (.invokevirtual 151, 3))) rfl (jx_ccV (As := [.int a0]) (rest := []) rfl rfl rfl rfl rfl rfl) (by decide)
  · exact fun d lv M Q x => jx_k_ri (jx_fok (by decide +kernel : decode (jx_mb 52) 112 = .ok (.ireturn, 1))) rfl
theorem kX7_open (d : Nat) (M : jx_M) (q : Int32 → jx_M → Prop) (a0 a1 a2 a3 a4 a5 : Value) : jx_I d 52 [a0, a1, a2, a3, a4, a5] M q ↔ jx_Ev d 52 0 [some a0, some a1, some a2, some a3, some a4, some a5, none] [] M (jx_qI q) := Iff.rfl
set_option maxRecDepth 100000 in
theorem eX7_isAskedOfOpenings :
  (∀ (d : Nat) (st : List Value) (M : jx_M) (Q : jx_Po) (x : Int32), jx_Ev d 53 0 [some (.int x)] st M Q ↔ jx_Ev d 53 1 [some (.int x)] (.int x :: st) M Q) ∧
  (∀ (d : Nat) (lv : List (Option Value)) (st : List Value) (M : jx_M) (Q : jx_Po) (x : Int32), jx_Ev d 53 1 lv (.int x :: st) M Q ↔ (if x < 0 then jx_Ev d 53 9 lv st M Q else jx_Ev d 53 4 lv st M Q)) ∧
  (∀ (d : Nat) (st : List Value) (M : jx_M) (Q : jx_Po) (x : Int32), jx_Ev d 53 4 [some (.int x)] st M Q ↔ jx_Ev d 53 5 [some (.int x)] (.int x :: st) M Q) ∧
  (∀ (d : Nat) (lv : List (Option Value)) (st : List Value) (M : jx_M) (Q : jx_Po), jx_Ev d 53 5 lv st M Q ↔ jx_Ev d 53 6 lv (.int 2 :: st) M Q) ∧
  (∀ (d : Nat) (lv : List (Option Value)) (st : List Value) (M : jx_M) (Q : jx_Po) (x z : Int32), jx_Ev d 53 6 lv (.int z :: .int x :: st) M Q ↔ (if x ≤ z then jx_Ev d 53 21 lv st M Q else jx_Ev d 53 9 lv st M Q)) ∧
  (∀ (d : Nat) (st : List Value) (M : jx_M) (Q : jx_Po) (x : Int32), jx_Ev d 53 9 [some (.int x)] st M Q ↔ jx_Ev d 53 10 [some (.int x)] (.int x :: st) M Q) ∧
  (∀ (d : Nat) (lv : List (Option Value)) (st : List Value) (M : jx_M) (Q : jx_Po), jx_Ev d 53 10 lv st M Q ↔ jx_Ev d 53 12 lv (.int 10 :: st) M Q) ∧
  (∀ (d : Nat) (lv : List (Option Value)) (st : List Value) (M : jx_M) (Q : jx_Po) (x z : Int32), jx_Ev d 53 12 lv (.int z :: .int x :: st) M Q ↔ (if x < z then jx_Ev d 53 25 lv st M Q else jx_Ev d 53 15 lv st M Q)) ∧
  (∀ (d : Nat) (st : List Value) (M : jx_M) (Q : jx_Po) (x : Int32), jx_Ev d 53 15 [some (.int x)] st M Q ↔ jx_Ev d 53 16 [some (.int x)] (.int x :: st) M Q) ∧
  (∀ (d : Nat) (lv : List (Option Value)) (st : List Value) (M : jx_M) (Q : jx_Po), jx_Ev d 53 16 lv st M Q ↔ jx_Ev d 53 18 lv (.int 15 :: st) M Q) ∧
  (∀ (d : Nat) (lv : List (Option Value)) (st : List Value) (M : jx_M) (Q : jx_Po) (x z : Int32), jx_Ev d 53 18 lv (.int z :: .int x :: st) M Q ↔ (if z ≤ x then jx_Ev d 53 25 lv st M Q else jx_Ev d 53 21 lv st M Q)) ∧
  (∀ (d : Nat) (lv : List (Option Value)) (st : List Value) (M : jx_M) (Q : jx_Po), jx_Ev d 53 21 lv st M Q ↔ jx_Ev d 53 22 lv (.int 1 :: st) M Q) ∧
  (∀ (d : Nat) (lv : List (Option Value)) (st : List Value) (M : jx_M) (Q : jx_Po), jx_Ev d 53 22 lv st M Q ↔ jx_Ev d 53 26 lv st M Q) ∧
  (∀ (d : Nat) (lv : List (Option Value)) (st : List Value) (M : jx_M) (Q : jx_Po), jx_Ev d 53 25 lv st M Q ↔ jx_Ev d 53 26 lv (.int 0 :: st) M Q) ∧
  (∀ (d : Nat) (lv : List (Option Value)) (M : jx_M) (Q : jx_Po) (x : Int32), jx_Ev d 53 26 lv [.int x] M Q ↔ ((x = 0 ∨ x = 1) ∧ Q [.int x] M)) := by
  refine ⟨?_, ?_, ?_, ?_, ?_, ?_, ?_, ?_, ?_, ?_, ?_, ?_, ?_, ?_, ?_⟩
  · exact fun d st M Q x => jx_ev_st (jx_fok (by decide +kernel : decode (jx_mb 53) 0 = .ok (.iload_n 0, 1))) rfl rfl rfl
  · exact fun d lv st M Q x => jx_k_b1 (jx_fok (by decide +kernel : decode (jx_mb 53) 1 = .ok (.ifCond .lt 8, 3))) rfl jx_hLt
  · exact fun d st M Q x => jx_ev_st (jx_fok (by decide +kernel : decode (jx_mb 53) 4 = .ok (.iload_n 0, 1))) rfl rfl rfl
  · exact fun d lv st M Q => jx_ev_st (jx_fok (by decide +kernel : decode (jx_mb 53) 5 = .ok (.iconst 2, 1))) rfl rfl rfl
  · exact fun d lv st M Q x z => jx_k_b2 (jx_fok (by decide +kernel : decode (jx_mb 53) 6 = .ok (.if_icmp .le 15, 3))) rfl jx_hLe
  · exact fun d st M Q x => jx_ev_st (jx_fok (by decide +kernel : decode (jx_mb 53) 9 = .ok (.iload_n 0, 1))) rfl rfl rfl
  · exact fun d lv st M Q => jx_ev_st (jx_fok (by decide +kernel : decode (jx_mb 53) 10 = .ok (.bipush 10, 2))) rfl rfl rfl
  · exact fun d lv st M Q x z => jx_k_b2 (jx_fok (by decide +kernel : decode (jx_mb 53) 12 = .ok (.if_icmp .lt 13, 3))) rfl jx_hLt
  · exact fun d st M Q x => jx_ev_st (jx_fok (by decide +kernel : decode (jx_mb 53) 15 = .ok (.iload_n 0, 1))) rfl rfl rfl
  · exact fun d lv st M Q => jx_ev_st (jx_fok (by decide +kernel : decode (jx_mb 53) 16 = .ok (.bipush 15, 2))) rfl rfl rfl
  · exact fun d lv st M Q x z => jx_k_b2 (jx_fok (by decide +kernel : decode (jx_mb 53) 18 = .ok (.if_icmp .ge 7, 3))) rfl jx_hGe
  · exact fun d lv st M Q => jx_ev_st (jx_fok (by decide +kernel : decode (jx_mb 53) 21 = .ok (.iconst 1, 1))) rfl rfl rfl
  · exact fun d lv st M Q => jx_k_goto (jx_fok (by decide +kernel : decode (jx_mb 53) 22 = .ok (.goto 4, 3))) rfl
  · exact fun d lv st M Q => jx_ev_st (jx_fok (by decide +kernel : decode (jx_mb 53) 25 = .ok (.iconst 0, 1))) rfl rfl rfl
  · exact fun d lv M Q x => jx_k_rz (jx_fok (by decide +kernel : decode (jx_mb 53) 26 = .ok (.ireturn, 1))) rfl
theorem kX7_isAskedOfOpenings (d : Nat) (M : jx_M) (q : Int32 → jx_M → Prop) (a0 : Value) : jx_I d 53 [a0] M q ↔ jx_Ev d 53 0 [some a0] [] M (jx_qI q) := Iff.rfl
set_option maxRecDepth 100000 in
theorem eX7_openingsAnswer :
  (∀ (d : Nat) (st : List Value) (M : jx_M) (Q : jx_Po) (l0 : Option Value) (x : Int32), jx_Ev d 54 0 [l0, some (.int x)] st M Q ↔ jx_Ev d 54 1 [l0, some (.int x)] (.int x :: st) M Q) ∧
  (∀ (d : Nat) (lv : List (Option Value)) (st : List Value) (M : jx_M) (Q : jx_Po) (x : Int32), jx_Ev d 54 1 lv (.int x :: st) M Q ↔ (if x = 0 then jx_Ev d 54 28 lv st M Q else if x = 1 then jx_Ev d 54 40 lv st M Q else if x = 2 then jx_Ev d 54 52 lv st M Q else jx_Ev d 54 64 lv st M Q)) ∧
  (∀ (d : Nat) (st : List Value) (M : jx_M) (Q : jx_Po) (l1 : Option Value) (x : Nat), jx_Ev d 54 28 [some (.ref x), l1] st M Q ↔ jx_Ev d 54 29 [some (.ref x), l1] (.ref x :: st) M Q) ∧
  (∀ (d : Nat) (lv : List (Option Value)) (st : List Value) (M : jx_M) (Q : jx_Po), jx_Ev d 54 29 lv (.ref 0 :: st) M Q ↔ jx_Ev d 54 32 lv (.ref 7 :: st) M Q) ∧
  (∀ (d : Nat) (st : List Value) (M : jx_M) (Q : jx_Po) (l1 : Option Value) (x : Nat), jx_Ev d 54 32 [some (.ref x), l1] st M Q ↔ jx_Ev d 54 33 [some (.ref x), l1] (.ref x :: st) M Q) ∧
  (∀ (d : Nat) (lv : List (Option Value)) (st : List Value) (M : jx_M) (Q : jx_Po), jx_Ev d 54 33 lv (.ref 0 :: st) M Q ↔ jx_Ev d 54 36 lv (jx_rv (M 0 6) :: st) M Q) ∧
  (∀ (d : Nat) (lv : List (Option Value)) (M : jx_M) (Q : jx_Po) (a0 : Nat), jx_Ev (d + 1) 54 36 lv [.ref a0, .ref 7] M Q ↔ jx_I d 16 [.ref 7, .ref a0] M (fun x M => jx_Ev (d + 1) 54 39 lv (.int x :: []) M Q)) ∧
  (∀ (d : Nat) (lv : List (Option Value)) (M : jx_M) (Q : jx_Po) (x : Int32), jx_Ev d 54 39 lv [.int x] M Q ↔ Q [.int x] M) ∧
  (∀ (d : Nat) (st : List Value) (M : jx_M) (Q : jx_Po) (l1 : Option Value) (x : Nat), jx_Ev d 54 40 [some (.ref x), l1] st M Q ↔ jx_Ev d 54 41 [some (.ref x), l1] (.ref x :: st) M Q) ∧
  (∀ (d : Nat) (lv : List (Option Value)) (st : List Value) (M : jx_M) (Q : jx_Po), jx_Ev d 54 41 lv (.ref 0 :: st) M Q ↔ jx_Ev d 54 44 lv (.ref 7 :: st) M Q) ∧
  (∀ (d : Nat) (st : List Value) (M : jx_M) (Q : jx_Po) (l1 : Option Value) (x : Nat), jx_Ev d 54 44 [some (.ref x), l1] st M Q ↔ jx_Ev d 54 45 [some (.ref x), l1] (.ref x :: st) M Q) ∧
  (∀ (d : Nat) (lv : List (Option Value)) (st : List Value) (M : jx_M) (Q : jx_Po), jx_Ev d 54 45 lv (.ref 0 :: st) M Q ↔ jx_Ev d 54 48 lv (jx_rv (M 0 6) :: st) M Q) ∧
  (∀ (d : Nat) (lv : List (Option Value)) (M : jx_M) (Q : jx_Po) (a0 : Nat), jx_Ev (d + 1) 54 48 lv [.ref a0, .ref 7] M Q ↔ jx_I d 13 [.ref 7, .ref a0] M (fun x M => jx_Ev (d + 1) 54 51 lv (.int x :: []) M Q)) ∧
  (∀ (d : Nat) (lv : List (Option Value)) (M : jx_M) (Q : jx_Po) (x : Int32), jx_Ev d 54 51 lv [.int x] M Q ↔ Q [.int x] M) ∧
  (∀ (d : Nat) (st : List Value) (M : jx_M) (Q : jx_Po) (l1 : Option Value) (x : Nat), jx_Ev d 54 52 [some (.ref x), l1] st M Q ↔ jx_Ev d 54 53 [some (.ref x), l1] (.ref x :: st) M Q) ∧
  (∀ (d : Nat) (lv : List (Option Value)) (st : List Value) (M : jx_M) (Q : jx_Po), jx_Ev d 54 53 lv (.ref 0 :: st) M Q ↔ jx_Ev d 54 56 lv (.ref 7 :: st) M Q) ∧
  (∀ (d : Nat) (st : List Value) (M : jx_M) (Q : jx_Po) (l1 : Option Value) (x : Nat), jx_Ev d 54 56 [some (.ref x), l1] st M Q ↔ jx_Ev d 54 57 [some (.ref x), l1] (.ref x :: st) M Q) ∧
  (∀ (d : Nat) (lv : List (Option Value)) (st : List Value) (M : jx_M) (Q : jx_Po), jx_Ev d 54 57 lv (.ref 0 :: st) M Q ↔ jx_Ev d 54 60 lv (jx_rv (M 0 6) :: st) M Q) ∧
  (∀ (d : Nat) (lv : List (Option Value)) (M : jx_M) (Q : jx_Po) (a0 : Nat), jx_Ev (d + 1) 54 60 lv [.ref a0, .ref 7] M Q ↔ jx_I d 17 [.ref 7, .ref a0] M (fun x M => jx_Ev (d + 1) 54 63 lv (.int x :: []) M Q)) ∧
  (∀ (d : Nat) (lv : List (Option Value)) (M : jx_M) (Q : jx_Po) (x : Int32), jx_Ev d 54 63 lv [.int x] M Q ↔ Q [.int x] M) ∧
  (∀ (d : Nat) (st : List Value) (M : jx_M) (Q : jx_Po) (l1 : Option Value) (x : Nat), jx_Ev d 54 64 [some (.ref x), l1] st M Q ↔ jx_Ev d 54 65 [some (.ref x), l1] (.ref x :: st) M Q) ∧
  (∀ (d : Nat) (lv : List (Option Value)) (st : List Value) (M : jx_M) (Q : jx_Po), jx_Ev d 54 65 lv (.ref 0 :: st) M Q ↔ jx_Ev d 54 68 lv (jx_rv (M 0 6) :: st) M Q) ∧
  (∀ (d : Nat) (st : List Value) (M : jx_M) (Q : jx_Po) (l0 : Option Value) (x : Int32), jx_Ev d 54 68 [l0, some (.int x)] st M Q ↔ jx_Ev d 54 69 [l0, some (.int x)] (.int x :: st) M Q) ∧
  (∀ (d : Nat) (lv : List (Option Value)) (st : List Value) (M : jx_M) (Q : jx_Po), jx_Ev d 54 69 lv st M Q ↔ jx_Ev d 54 71 lv (.int 10 :: st) M Q) ∧
  (∀ (d : Nat) (lv : List (Option Value)) (st : List Value) (M : jx_M) (Q : jx_Po) (x z : Int32), jx_Ev d 54 71 lv (.int z :: .int x :: st) M Q ↔ jx_Ev d 54 72 lv (.int (x - z) :: st) M Q) ∧
  (∀ (d : Nat) (lv : List (Option Value)) (M : jx_M) (Q : jx_Po) (a0 : Int32) (a1 : Nat) (hk : jx_cl a1 = 1), jx_Ev (d + 1) 54 72 lv [.int a0, .ref a1] M Q ↔ jx_I d 5 [.ref a1, .int a0] M (fun x M => jx_Ev (d + 1) 54 75 lv (.int x :: []) M Q)) ∧
  (∀ (d : Nat) (lv : List (Option Value)) (st : List Value) (M : jx_M) (Q : jx_Po) (x : Int32), jx_Ev d 54 75 lv (.int x :: st) M Q ↔ (if x = 0 then jx_Ev d 54 96 lv st M Q else jx_Ev d 54 78 lv st M Q)) ∧
  (∀ (d : Nat) (st : List Value) (M : jx_M) (Q : jx_Po) (l1 : Option Value) (x : Nat), jx_Ev d 54 78 [some (.ref x), l1] st M Q ↔ jx_Ev d 54 79 [some (.ref x), l1] (.ref x :: st) M Q) ∧
  (∀ (d : Nat) (lv : List (Option Value)) (st : List Value) (M : jx_M) (Q : jx_Po), jx_Ev d 54 79 lv (.ref 0 :: st) M Q ↔ jx_Ev d 54 82 lv (.ref 7 :: st) M Q) ∧
  (∀ (d : Nat) (st : List Value) (M : jx_M) (Q : jx_Po) (l1 : Option Value) (x : Nat), jx_Ev d 54 82 [some (.ref x), l1] st M Q ↔ jx_Ev d 54 83 [some (.ref x), l1] (.ref x :: st) M Q) ∧
  (∀ (d : Nat) (lv : List (Option Value)) (st : List Value) (M : jx_M) (Q : jx_Po), jx_Ev d 54 83 lv (.ref 0 :: st) M Q ↔ jx_Ev d 54 86 lv (jx_rv (M 0 6) :: st) M Q) ∧
  (∀ (d : Nat) (st : List Value) (M : jx_M) (Q : jx_Po) (l0 : Option Value) (x : Int32), jx_Ev d 54 86 [l0, some (.int x)] st M Q ↔ jx_Ev d 54 87 [l0, some (.int x)] (.int x :: st) M Q) ∧
  (∀ (d : Nat) (lv : List (Option Value)) (st : List Value) (M : jx_M) (Q : jx_Po), jx_Ev d 54 87 lv st M Q ↔ jx_Ev d 54 89 lv (.int 10 :: st) M Q) ∧
  (∀ (d : Nat) (lv : List (Option Value)) (st : List Value) (M : jx_M) (Q : jx_Po) (x z : Int32), jx_Ev d 54 89 lv (.int z :: .int x :: st) M Q ↔ jx_Ev d 54 90 lv (.int (x - z) :: st) M Q) ∧
  (∀ (d : Nat) (lv : List (Option Value)) (M : jx_M) (Q : jx_Po) (a0 : Int32) (a1 : Nat), jx_Ev (d + 1) 54 90 lv [.int a0, .ref a1, .ref 7] M Q ↔ jx_I d 14 [.ref 7, .ref a1, .int a0] M (fun x M => jx_Ev (d + 1) 54 93 lv (.int x :: []) M Q)) ∧
  (∀ (d : Nat) (lv : List (Option Value)) (st : List Value) (M : jx_M) (Q : jx_Po), jx_Ev d 54 93 lv st M Q ↔ jx_Ev d 54 98 lv st M Q) ∧
  (∀ (d : Nat) (lv : List (Option Value)) (st : List Value) (M : jx_M) (Q : jx_Po), jx_Ev d 54 96 lv st M Q ↔ jx_Ev d 54 98 lv (.int (-9) :: st) M Q) ∧
  (∀ (d : Nat) (lv : List (Option Value)) (M : jx_M) (Q : jx_Po) (x : Int32), jx_Ev d 54 98 lv [.int x] M Q ↔ Q [.int x] M) := by
  refine ⟨?_, ?_, ?_, ?_, ?_, ?_, ?_, ?_, ?_, ?_, ?_, ?_, ?_, ?_, ?_, ?_, ?_, ?_, ?_, ?_, ?_, ?_, ?_, ?_, ?_, ?_, ?_, ?_, ?_, ?_, ?_, ?_, ?_, ?_, ?_, ?_, ?_, ?_⟩
  · exact fun d st M Q l0 x => jx_ev_st (jx_fok (by decide +kernel : decode (jx_mb 54) 0 = .ok (.iload_n 1, 1))) rfl rfl rfl
  · intro d lv st M Q x
    by_cases h0 : x = 0
    · subst h0; rw [if_pos rfl]; exact jx_k_tsi (jx_fok (by decide +kernel : decode (jx_mb 54) 1 = .ok (.tableswitch 63 0 2 #[27, 39, 51], 27))) (by decide) rfl rfl
    rw [if_neg h0]
    by_cases h1 : x = 1
    · subst h1; rw [if_pos rfl]; exact jx_k_tsi (jx_fok (by decide +kernel : decode (jx_mb 54) 1 = .ok (.tableswitch 63 0 2 #[27, 39, 51], 27))) (by decide) rfl rfl
    rw [if_neg h1]
    by_cases h2 : x = 2
    · subst h2; rw [if_pos rfl]; exact jx_k_tsi (jx_fok (by decide +kernel : decode (jx_mb 54) 1 = .ok (.tableswitch 63 0 2 #[27, 39, 51], 27))) (by decide) rfl rfl
    rw [if_neg h2]
    exact jx_k_tso (jx_fok (by decide +kernel : decode (jx_mb 54) 1 = .ok (.tableswitch 63 0 2 #[27, 39, 51], 27))) (by have e := jx_tsx3 (x := x) h0 h1 h2; omega) rfl
  · exact fun d st M Q l1 x => jx_ev_st (jx_fok (by decide +kernel : decode (jx_mb 54) 28 = .ok (.aload_n 0, 1))) rfl rfl rfl
  · exact fun d lv st M Q => jx_k_gf (jx_fok (by decide +kernel : decode (jx_mb 54) 29 = .ok (.getfield 34, 3))) rfl rfl rfl
  · exact fun d st M Q l1 x => jx_ev_st (jx_fok (by decide +kernel : decode (jx_mb 54) 32 = .ok (.aload_n 0, 1))) rfl rfl rfl
  · exact fun d lv st M Q => jx_k_gf (jx_fok (by decide +kernel : decode (jx_mb 54) 33 = .ok (.getfield 55, 3))) rfl rfl rfl
  · exact fun d lv M Q a0 => jx_ev_ci (jx_fok (by decide +kernel : decode (jx_mb 54) 36 = .ok (.invokevirtual 154, 3))) rfl (jx_ccV (As := [.ref a0]) (rest := []) rfl rfl rfl rfl rfl rfl) (by decide)
  · exact fun d lv M Q x => jx_k_ri (jx_fok (by decide +kernel : decode (jx_mb 54) 39 = .ok (.ireturn, 1))) rfl
  · exact fun d st M Q l1 x => jx_ev_st (jx_fok (by decide +kernel : decode (jx_mb 54) 40 = .ok (.aload_n 0, 1))) rfl rfl rfl
  · exact fun d lv st M Q => jx_k_gf (jx_fok (by decide +kernel : decode (jx_mb 54) 41 = .ok (.getfield 34, 3))) rfl rfl rfl
  · exact fun d st M Q l1 x => jx_ev_st (jx_fok (by decide +kernel : decode (jx_mb 54) 44 = .ok (.aload_n 0, 1))) rfl rfl rfl
  · exact fun d lv st M Q => jx_k_gf (jx_fok (by decide +kernel : decode (jx_mb 54) 45 = .ok (.getfield 55, 3))) rfl rfl rfl
  · exact fun d lv M Q a0 => jx_ev_ci (jx_fok (by decide +kernel : decode (jx_mb 54) 48 = .ok (.invokevirtual 158, 3))) rfl (jx_ccV (As := [.ref a0]) (rest := []) rfl rfl rfl rfl rfl rfl) (by decide)
  · exact fun d lv M Q x => jx_k_ri (jx_fok (by decide +kernel : decode (jx_mb 54) 51 = .ok (.ireturn, 1))) rfl
  · exact fun d st M Q l1 x => jx_ev_st (jx_fok (by decide +kernel : decode (jx_mb 54) 52 = .ok (.aload_n 0, 1))) rfl rfl rfl
  · exact fun d lv st M Q => jx_k_gf (jx_fok (by decide +kernel : decode (jx_mb 54) 53 = .ok (.getfield 34, 3))) rfl rfl rfl
  · exact fun d st M Q l1 x => jx_ev_st (jx_fok (by decide +kernel : decode (jx_mb 54) 56 = .ok (.aload_n 0, 1))) rfl rfl rfl
  · exact fun d lv st M Q => jx_k_gf (jx_fok (by decide +kernel : decode (jx_mb 54) 57 = .ok (.getfield 55, 3))) rfl rfl rfl
  · exact fun d lv M Q a0 => jx_ev_ci (jx_fok (by decide +kernel : decode (jx_mb 54) 60 = .ok (.invokevirtual 161, 3))) rfl (jx_ccV (As := [.ref a0]) (rest := []) rfl rfl rfl rfl rfl rfl) (by decide)
  · exact fun d lv M Q x => jx_k_ri (jx_fok (by decide +kernel : decode (jx_mb 54) 63 = .ok (.ireturn, 1))) rfl
  · exact fun d st M Q l1 x => jx_ev_st (jx_fok (by decide +kernel : decode (jx_mb 54) 64 = .ok (.aload_n 0, 1))) rfl rfl rfl
  · exact fun d lv st M Q => jx_k_gf (jx_fok (by decide +kernel : decode (jx_mb 54) 65 = .ok (.getfield 55, 3))) rfl rfl rfl
  · exact fun d st M Q l0 x => jx_ev_st (jx_fok (by decide +kernel : decode (jx_mb 54) 68 = .ok (.iload_n 1, 1))) rfl rfl rfl
  · exact fun d lv st M Q => jx_ev_st (jx_fok (by decide +kernel : decode (jx_mb 54) 69 = .ok (.bipush 10, 2))) rfl rfl rfl
  · exact fun d lv st M Q x z => jx_ev_st (jx_fok (by decide +kernel : decode (jx_mb 54) 71 = .ok (.isub, 1))) rfl rfl rfl
  · exact fun d lv M Q a0 a1 hk => jx_ev_ci (jx_fok (by decide +kernel : decode (jx_mb 54) 72 = .ok (.invokevirtual 98, 3))) rfl (jx_ccV (As := [.int a0]) (rest := []) rfl rfl rfl hk rfl rfl) (by decide)
  · exact fun d lv st M Q x => jx_k_b1 (jx_fok (by decide +kernel : decode (jx_mb 54) 75 = .ok (.ifCond .eq 21, 3))) rfl jx_hEq
  · exact fun d st M Q l1 x => jx_ev_st (jx_fok (by decide +kernel : decode (jx_mb 54) 78 = .ok (.aload_n 0, 1))) rfl rfl rfl
  · exact fun d lv st M Q => jx_k_gf (jx_fok (by decide +kernel : decode (jx_mb 54) 79 = .ok (.getfield 34, 3))) rfl rfl rfl
  · exact fun d st M Q l1 x => jx_ev_st (jx_fok (by decide +kernel : decode (jx_mb 54) 82 = .ok (.aload_n 0, 1))) rfl rfl rfl
  · exact fun d lv st M Q => jx_k_gf (jx_fok (by decide +kernel : decode (jx_mb 54) 83 = .ok (.getfield 55, 3))) rfl rfl rfl
  · exact fun d st M Q l0 x => jx_ev_st (jx_fok (by decide +kernel : decode (jx_mb 54) 86 = .ok (.iload_n 1, 1))) rfl rfl rfl
  · exact fun d lv st M Q => jx_ev_st (jx_fok (by decide +kernel : decode (jx_mb 54) 87 = .ok (.bipush 10, 2))) rfl rfl rfl
  · exact fun d lv st M Q x z => jx_ev_st (jx_fok (by decide +kernel : decode (jx_mb 54) 89 = .ok (.isub, 1))) rfl rfl rfl
  · exact fun d lv M Q a0 a1 => jx_ev_ci (jx_fok (by decide +kernel : decode (jx_mb 54) 90 = .ok (.invokevirtual 164, 3))) rfl (jx_ccV (As := [.ref a1, .int a0]) (rest := []) rfl rfl rfl rfl rfl rfl) (by decide)
  · exact fun d lv st M Q => jx_k_goto (jx_fok (by decide +kernel : decode (jx_mb 54) 93 = .ok (.goto 5, 3))) rfl
  · exact fun d lv st M Q => jx_ev_st (jx_fok (by decide +kernel : decode (jx_mb 54) 96 = .ok (.bipush (-9), 2))) rfl rfl rfl
  · exact fun d lv M Q x => jx_k_ri (jx_fok (by decide +kernel : decode (jx_mb 54) 98 = .ok (.ireturn, 1))) rfl
theorem kX7_openingsAnswer (d : Nat) (M : jx_M) (q : Int32 → jx_M → Prop) (a0 a1 : Value) : jx_I d 54 [a0, a1] M q ↔ jx_Ev d 54 0 [some a0, some a1] [] M (jx_qI q) := Iff.rfl
set_option maxRecDepth 100000 in
theorem eX7_ease :
  (∀ (d : Nat) (st : List Value) (M : jx_M) (Q : jx_Po) (l1 l2 : Option Value) (x : Nat), jx_Ev d 55 0 [some (.ref x), l1, l2] st M Q ↔ jx_Ev d 55 1 [some (.ref x), l1, l2] (.ref x :: st) M Q) ∧
  (∀ (d : Nat) (lv : List (Option Value)) (st : List Value) (M : jx_M) (Q : jx_Po), jx_Ev d 55 1 lv (.ref 0 :: st) M Q ↔ jx_Ev d 55 4 lv (jx_rv (M 0 6) :: st) M Q) ∧
  (∀ (d : Nat) (st : List Value) (M : jx_M) (Q : jx_Po) (l0 l2 : Option Value) (x : Int32), jx_Ev d 55 4 [l0, some (.int x), l2] st M Q ↔ jx_Ev d 55 5 [l0, some (.int x), l2] (.int x :: st) M Q) ∧
  (∀ (d : Nat) (lv : List (Option Value)) (M : jx_M) (Q : jx_Po) (a0 : Int32) (a1 : Nat) (hk : jx_cl a1 = 1), jx_Ev (d + 1) 55 5 lv [.int a0, .ref a1] M Q ↔ jx_I d 5 [.ref a1, .int a0] M (fun x M => jx_Ev (d + 1) 55 8 lv (.int x :: []) M Q)) ∧
  (∀ (d : Nat) (lv : List (Option Value)) (st : List Value) (M : jx_M) (Q : jx_Po) (x : Int32), jx_Ev d 55 8 lv (.int x :: st) M Q ↔ (if x = 0 then jx_Ev d 55 11 lv st M Q else jx_Ev d 55 13 lv st M Q)) ∧
  (∀ (d : Nat) (lv : List (Option Value)) (st : List Value) (M : jx_M) (Q : jx_Po), jx_Ev d 55 11 lv st M Q ↔ jx_Ev d 55 12 lv (.int (-1) :: st) M Q) ∧
  (∀ (d : Nat) (lv : List (Option Value)) (M : jx_M) (Q : jx_Po) (x : Int32), jx_Ev d 55 12 lv [.int x] M Q ↔ Q [.int x] M) ∧
  (∀ (d : Nat) (st : List Value) (M : jx_M) (Q : jx_Po) (l0 l1 : Option Value) (x : Int32), jx_Ev d 55 13 [l0, l1, some (.int x)] st M Q ↔ jx_Ev d 55 14 [l0, l1, some (.int x)] (.int x :: st) M Q) ∧
  (∀ (d : Nat) (lv : List (Option Value)) (st : List Value) (M : jx_M) (Q : jx_Po), jx_Ev d 55 14 lv st M Q ↔ jx_Ev d 55 15 lv (.int (-1) :: st) M Q) ∧
  (∀ (d : Nat) (lv : List (Option Value)) (st : List Value) (M : jx_M) (Q : jx_Po) (x z : Int32), jx_Ev d 55 15 lv (.int z :: .int x :: st) M Q ↔ (if x < z then jx_Ev d 55 24 lv st M Q else jx_Ev d 55 18 lv st M Q)) ∧
  (∀ (d : Nat) (st : List Value) (M : jx_M) (Q : jx_Po) (l0 l1 : Option Value) (x : Int32), jx_Ev d 55 18 [l0, l1, some (.int x)] st M Q ↔ jx_Ev d 55 19 [l0, l1, some (.int x)] (.int x :: st) M Q) ∧
  (∀ (d : Nat) (lv : List (Option Value)) (st : List Value) (M : jx_M) (Q : jx_Po), jx_Ev d 55 19 lv st M Q ↔ jx_Ev d 55 21 lv (.int 6 :: st) M Q) ∧
  (∀ (d : Nat) (lv : List (Option Value)) (st : List Value) (M : jx_M) (Q : jx_Po) (x z : Int32), jx_Ev d 55 21 lv (.int z :: .int x :: st) M Q ↔ (if x < z then jx_Ev d 55 27 lv st M Q else jx_Ev d 55 24 lv st M Q)) ∧
  (∀ (d : Nat) (lv : List (Option Value)) (st : List Value) (M : jx_M) (Q : jx_Po), jx_Ev d 55 24 lv st M Q ↔ jx_Ev d 55 26 lv (.int (-2) :: st) M Q) ∧
  (∀ (d : Nat) (lv : List (Option Value)) (M : jx_M) (Q : jx_Po) (x : Int32), jx_Ev d 55 26 lv [.int x] M Q ↔ Q [.int x] M) ∧
  (∀ (d : Nat) (st : List Value) (M : jx_M) (Q : jx_Po) (l0 l1 : Option Value) (x : Int32), jx_Ev d 55 27 [l0, l1, some (.int x)] st M Q ↔ jx_Ev d 55 28 [l0, l1, some (.int x)] (.int x :: st) M Q) ∧
  (∀ (d : Nat) (lv : List (Option Value)) (st : List Value) (M : jx_M) (Q : jx_Po) (x : Int32), jx_Ev d 55 28 lv (.int x :: st) M Q ↔ (if x < 0 then jx_Ev d 55 46 lv st M Q else jx_Ev d 55 31 lv st M Q)) ∧
  (∀ (d : Nat) (st : List Value) (M : jx_M) (Q : jx_Po) (l1 l2 : Option Value) (x : Nat), jx_Ev d 55 31 [some (.ref x), l1, l2] st M Q ↔ jx_Ev d 55 32 [some (.ref x), l1, l2] (.ref x :: st) M Q) ∧
  (∀ (d : Nat) (lv : List (Option Value)) (st : List Value) (M : jx_M) (Q : jx_Po), jx_Ev d 55 32 lv (.ref 0 :: st) M Q ↔ jx_Ev d 55 35 lv (jx_rv (M 0 6) :: st) M Q) ∧
  (∀ (d : Nat) (st : List Value) (M : jx_M) (Q : jx_Po) (l0 l1 : Option Value) (x : Int32), jx_Ev d 55 35 [l0, l1, some (.int x)] st M Q ↔ jx_Ev d 55 36 [l0, l1, some (.int x)] (.int x :: st) M Q) ∧
  (∀ (d : Nat) (st : List Value) (M : jx_M) (Q : jx_Po) (l0 l2 : Option Value) (x : Int32), jx_Ev d 55 36 [l0, some (.int x), l2] st M Q ↔ jx_Ev d 55 37 [l0, some (.int x), l2] (.int x :: st) M Q) ∧
  (∀ (d : Nat) (lv : List (Option Value)) (M : jx_M) (Q : jx_Po) (a0 : Int32) (a1 : Int32) (a2 : Nat) (hk : jx_cl a2 = 1), jx_Ev (d + 1) 55 37 lv [.int a0, .int a1, .ref a2] M Q ↔ jx_I d 7 [.ref a2, .int a1, .int a0] M (fun x M => jx_Ev (d + 1) 55 40 lv (.int x :: []) M Q)) ∧
  (∀ (d : Nat) (lv : List (Option Value)) (st : List Value) (M : jx_M) (Q : jx_Po) (x : Int32), jx_Ev d 55 40 lv (.int x :: st) M Q ↔ (if x = 0 then jx_Ev d 55 43 lv st M Q else jx_Ev d 55 46 lv st M Q)) ∧
  (∀ (d : Nat) (lv : List (Option Value)) (st : List Value) (M : jx_M) (Q : jx_Po), jx_Ev d 55 43 lv st M Q ↔ jx_Ev d 55 45 lv (.int (-9) :: st) M Q) ∧
  (∀ (d : Nat) (lv : List (Option Value)) (M : jx_M) (Q : jx_Po) (x : Int32), jx_Ev d 55 45 lv [.int x] M Q ↔ Q [.int x] M) ∧
  (∀ (d : Nat) (st : List Value) (M : jx_M) (Q : jx_Po) (l1 l2 : Option Value) (x : Nat), jx_Ev d 55 46 [some (.ref x), l1, l2] st M Q ↔ jx_Ev d 55 47 [some (.ref x), l1, l2] (.ref x :: st) M Q) ∧
  (∀ (d : Nat) (lv : List (Option Value)) (st : List Value) (M : jx_M) (Q : jx_Po), jx_Ev d 55 47 lv (.ref 0 :: st) M Q ↔ jx_Ev d 55 50 lv (.ref 9 :: st) M Q) ∧
  (∀ (d : Nat) (st : List Value) (M : jx_M) (Q : jx_Po) (l1 l2 : Option Value) (x : Nat), jx_Ev d 55 50 [some (.ref x), l1, l2] st M Q ↔ jx_Ev d 55 51 [some (.ref x), l1, l2] (.ref x :: st) M Q) ∧
  (∀ (d : Nat) (lv : List (Option Value)) (st : List Value) (M : jx_M) (Q : jx_Po), jx_Ev d 55 51 lv (.ref 0 :: st) M Q ↔ jx_Ev d 55 54 lv (jx_rv (M 0 6) :: st) M Q) ∧
  (∀ (d : Nat) (st : List Value) (M : jx_M) (Q : jx_Po) (l0 l2 : Option Value) (x : Int32), jx_Ev d 55 54 [l0, some (.int x), l2] st M Q ↔ jx_Ev d 55 55 [l0, some (.int x), l2] (.int x :: st) M Q) ∧
  (∀ (d : Nat) (lv : List (Option Value)) (M : jx_M) (Q : jx_Po) (a0 : Int32) (a1 : Nat), jx_Ev (d + 1) 55 55 lv [.int a0, .ref a1, .ref 9] M Q ↔ jx_V d 0 [.ref 9, .ref a1, .int a0] M (fun M => jx_Ev (d + 1) 55 58 lv [] M Q)) ∧
  (∀ (d : Nat) (st : List Value) (M : jx_M) (Q : jx_Po) (l0 l1 : Option Value) (x : Int32), jx_Ev d 55 58 [l0, l1, some (.int x)] st M Q ↔ jx_Ev d 55 59 [l0, l1, some (.int x)] (.int x :: st) M Q) ∧
  (∀ (d : Nat) (lv : List (Option Value)) (st : List Value) (M : jx_M) (Q : jx_Po) (x : Int32), jx_Ev d 55 59 lv (.int x :: st) M Q ↔ (if 0 ≤ x then jx_Ev d 55 72 lv st M Q else jx_Ev d 55 62 lv st M Q)) ∧
  (∀ (d : Nat) (st : List Value) (M : jx_M) (Q : jx_Po) (l1 l2 : Option Value) (x : Nat), jx_Ev d 55 62 [some (.ref x), l1, l2] st M Q ↔ jx_Ev d 55 63 [some (.ref x), l1, l2] (.ref x :: st) M Q) ∧
  (∀ (d : Nat) (lv : List (Option Value)) (st : List Value) (M : jx_M) (Q : jx_Po), jx_Ev d 55 63 lv (.ref 0 :: st) M Q ↔ jx_Ev d 55 66 lv (.ref 9 :: st) M Q) ∧
  (∀ (d : Nat) (lv : List (Option Value)) (st : List Value) (M : jx_M) (Q : jx_Po), jx_Ev d 55 66 lv (.ref 9 :: st) M Q ↔ jx_Ev d 55 69 lv (.int (M 9 1) :: st) M Q) ∧
  (∀ (d : Nat) (lv : List (Option Value)) (st : List Value) (M : jx_M) (Q : jx_Po), jx_Ev d 55 69 lv st M Q ↔ jx_Ev d 55 81 lv st M Q) ∧
  (∀ (d : Nat) (st : List Value) (M : jx_M) (Q : jx_Po) (l1 l2 : Option Value) (x : Nat), jx_Ev d 55 72 [some (.ref x), l1, l2] st M Q ↔ jx_Ev d 55 73 [some (.ref x), l1, l2] (.ref x :: st) M Q) ∧
  (∀ (d : Nat) (lv : List (Option Value)) (st : List Value) (M : jx_M) (Q : jx_Po), jx_Ev d 55 73 lv (.ref 0 :: st) M Q ↔ jx_Ev d 55 76 lv (.ref 9 :: st) M Q) ∧
  (∀ (d : Nat) (lv : List (Option Value)) (st : List Value) (M : jx_M) (Q : jx_Po), jx_Ev d 55 76 lv (.ref 9 :: st) M Q ↔ jx_Ev d 55 79 lv (.ref 10 :: st) M Q) ∧
  (∀ (d : Nat) (st : List Value) (M : jx_M) (Q : jx_Po) (l0 l1 : Option Value) (x : Int32), jx_Ev d 55 79 [l0, l1, some (.int x)] st M Q ↔ jx_Ev d 55 80 [l0, l1, some (.int x)] (.int x :: st) M Q) ∧
  (∀ (d : Nat) (lv : List (Option Value)) (st : List Value) (M : jx_M) (Q : jx_Po) (x : Int32) (a : Nat) (ha : jx_cl a = 9), jx_Ev d 55 80 lv (.int x :: .ref a :: st) M Q ↔ (vp_in x (jx_sz a) ∧ jx_Ev d 55 81 lv (.int (M a x.toNatClampNeg) :: st) M Q)) ∧
  (∀ (d : Nat) (lv : List (Option Value)) (M : jx_M) (Q : jx_Po) (x : Int32), jx_Ev d 55 81 lv [.int x] M Q ↔ Q [.int x] M) := by
  refine ⟨?_, ?_, ?_, ?_, ?_, ?_, ?_, ?_, ?_, ?_, ?_, ?_, ?_, ?_, ?_, ?_, ?_, ?_, ?_, ?_, ?_, ?_, ?_, ?_, ?_, ?_, ?_, ?_, ?_, ?_, ?_, ?_, ?_, ?_, ?_, ?_, ?_, ?_, ?_, ?_, ?_, ?_, ?_⟩
  · exact fun d st M Q l1 l2 x => jx_ev_st (jx_fok (by decide +kernel : decode (jx_mb 55) 0 = .ok (.aload_n 0, 1))) rfl rfl rfl
  · exact fun d lv st M Q => jx_k_gf (jx_fok (by decide +kernel : decode (jx_mb 55) 1 = .ok (.getfield 55, 3))) rfl rfl rfl
  · exact fun d st M Q l0 l2 x => jx_ev_st (jx_fok (by decide +kernel : decode (jx_mb 55) 4 = .ok (.iload_n 1, 1))) rfl rfl rfl
  · exact fun d lv M Q a0 a1 hk => jx_ev_ci (jx_fok (by decide +kernel : decode (jx_mb 55) 5 = .ok (.invokevirtual 98, 3))) rfl (jx_ccV (As := [.int a0]) (rest := []) rfl rfl rfl hk rfl rfl) (by decide)
  · exact fun d lv st M Q x => jx_k_b1n (jx_fok (by decide +kernel : decode (jx_mb 55) 8 = .ok (.ifCond .ne 5, 3))) rfl jx_hNe
  · exact fun d lv st M Q => jx_ev_st (jx_fok (by decide +kernel : decode (jx_mb 55) 11 = .ok (.iconst (-1), 1))) rfl rfl rfl
  · exact fun d lv M Q x => jx_k_ri (jx_fok (by decide +kernel : decode (jx_mb 55) 12 = .ok (.ireturn, 1))) rfl
  · exact fun d st M Q l0 l1 x => jx_ev_st (jx_fok (by decide +kernel : decode (jx_mb 55) 13 = .ok (.iload_n 2, 1))) rfl rfl rfl
  · exact fun d lv st M Q => jx_ev_st (jx_fok (by decide +kernel : decode (jx_mb 55) 14 = .ok (.iconst (-1), 1))) rfl rfl rfl
  · exact fun d lv st M Q x z => jx_k_b2 (jx_fok (by decide +kernel : decode (jx_mb 55) 15 = .ok (.if_icmp .lt 9, 3))) rfl jx_hLt
  · exact fun d st M Q l0 l1 x => jx_ev_st (jx_fok (by decide +kernel : decode (jx_mb 55) 18 = .ok (.iload_n 2, 1))) rfl rfl rfl
  · exact fun d lv st M Q => jx_ev_st (jx_fok (by decide +kernel : decode (jx_mb 55) 19 = .ok (.bipush 6, 2))) rfl rfl rfl
  · exact fun d lv st M Q x z => jx_k_b2 (jx_fok (by decide +kernel : decode (jx_mb 55) 21 = .ok (.if_icmp .lt 6, 3))) rfl jx_hLt
  · exact fun d lv st M Q => jx_ev_st (jx_fok (by decide +kernel : decode (jx_mb 55) 24 = .ok (.bipush (-2), 2))) rfl rfl rfl
  · exact fun d lv M Q x => jx_k_ri (jx_fok (by decide +kernel : decode (jx_mb 55) 26 = .ok (.ireturn, 1))) rfl
  · exact fun d st M Q l0 l1 x => jx_ev_st (jx_fok (by decide +kernel : decode (jx_mb 55) 27 = .ok (.iload_n 2, 1))) rfl rfl rfl
  · exact fun d lv st M Q x => jx_k_b1 (jx_fok (by decide +kernel : decode (jx_mb 55) 28 = .ok (.ifCond .lt 18, 3))) rfl jx_hLt
  · exact fun d st M Q l1 l2 x => jx_ev_st (jx_fok (by decide +kernel : decode (jx_mb 55) 31 = .ok (.aload_n 0, 1))) rfl rfl rfl
  · exact fun d lv st M Q => jx_k_gf (jx_fok (by decide +kernel : decode (jx_mb 55) 32 = .ok (.getfield 55, 3))) rfl rfl rfl
  · exact fun d st M Q l0 l1 x => jx_ev_st (jx_fok (by decide +kernel : decode (jx_mb 55) 35 = .ok (.iload_n 2, 1))) rfl rfl rfl
  · exact fun d st M Q l0 l2 x => jx_ev_st (jx_fok (by decide +kernel : decode (jx_mb 55) 36 = .ok (.iload_n 1, 1))) rfl rfl rfl
  · exact fun d lv M Q a0 a1 a2 hk => jx_ev_ci (jx_fok (by decide +kernel : decode (jx_mb 55) 37 = .ok (.invokevirtual 168, 3))) rfl (jx_ccV (As := [.int a1, .int a0]) (rest := []) rfl rfl rfl hk rfl rfl) (by decide)
  · exact fun d lv st M Q x => jx_k_b1n (jx_fok (by decide +kernel : decode (jx_mb 55) 40 = .ok (.ifCond .ne 6, 3))) rfl jx_hNe
  · exact fun d lv st M Q => jx_ev_st (jx_fok (by decide +kernel : decode (jx_mb 55) 43 = .ok (.bipush (-9), 2))) rfl rfl rfl
  · exact fun d lv M Q x => jx_k_ri (jx_fok (by decide +kernel : decode (jx_mb 55) 45 = .ok (.ireturn, 1))) rfl
  · exact fun d st M Q l1 l2 x => jx_ev_st (jx_fok (by decide +kernel : decode (jx_mb 55) 46 = .ok (.aload_n 0, 1))) rfl rfl rfl
  · exact fun d lv st M Q => jx_k_gf (jx_fok (by decide +kernel : decode (jx_mb 55) 47 = .ok (.getfield 41, 3))) rfl rfl rfl
  · exact fun d st M Q l1 l2 x => jx_ev_st (jx_fok (by decide +kernel : decode (jx_mb 55) 50 = .ok (.aload_n 0, 1))) rfl rfl rfl
  · exact fun d lv st M Q => jx_k_gf (jx_fok (by decide +kernel : decode (jx_mb 55) 51 = .ok (.getfield 55, 3))) rfl rfl rfl
  · exact fun d st M Q l0 l2 x => jx_ev_st (jx_fok (by decide +kernel : decode (jx_mb 55) 54 = .ok (.iload_n 1, 1))) rfl rfl rfl
  · exact fun d lv M Q a0 a1 => jx_ev_cv (jx_fok (by decide +kernel : decode (jx_mb 55) 55 = .ok (.invokevirtual 172, 3))) rfl (jx_ccV (As := [.ref a1, .int a0]) (rest := []) rfl rfl rfl rfl rfl rfl) rfl
  · exact fun d st M Q l0 l1 x => jx_ev_st (jx_fok (by decide +kernel : decode (jx_mb 55) 58 = .ok (.iload_n 2, 1))) rfl rfl rfl
  · exact fun d lv st M Q x => jx_k_b1 (jx_fok (by decide +kernel : decode (jx_mb 55) 59 = .ok (.ifCond .ge 13, 3))) rfl jx_hGe
  · exact fun d st M Q l1 l2 x => jx_ev_st (jx_fok (by decide +kernel : decode (jx_mb 55) 62 = .ok (.aload_n 0, 1))) rfl rfl rfl
  · exact fun d lv st M Q => jx_k_gf (jx_fok (by decide +kernel : decode (jx_mb 55) 63 = .ok (.getfield 41, 3))) rfl rfl rfl
  · exact fun d lv st M Q => jx_k_gf (jx_fok (by decide +kernel : decode (jx_mb 55) 66 = .ok (.getfield 176, 3))) rfl rfl rfl
  · exact fun d lv st M Q => jx_k_goto (jx_fok (by decide +kernel : decode (jx_mb 55) 69 = .ok (.goto 12, 3))) rfl
  · exact fun d st M Q l1 l2 x => jx_ev_st (jx_fok (by decide +kernel : decode (jx_mb 55) 72 = .ok (.aload_n 0, 1))) rfl rfl rfl
  · exact fun d lv st M Q => jx_k_gf (jx_fok (by decide +kernel : decode (jx_mb 55) 73 = .ok (.getfield 41, 3))) rfl rfl rfl
  · exact fun d lv st M Q => jx_k_gf (jx_fok (by decide +kernel : decode (jx_mb 55) 76 = .ok (.getfield 179, 3))) rfl rfl rfl
  · exact fun d st M Q l0 l1 x => jx_ev_st (jx_fok (by decide +kernel : decode (jx_mb 55) 79 = .ok (.iload_n 2, 1))) rfl rfl rfl
  · exact fun d lv st M Q x a ha => jx_k_al (jx_fok (by decide +kernel : decode (jx_mb 55) 80 = .ok (.iaload, 1))) ha
  · exact fun d lv M Q x => jx_k_ri (jx_fok (by decide +kernel : decode (jx_mb 55) 81 = .ok (.ireturn, 1))) rfl
theorem kX7_ease (d : Nat) (M : jx_M) (q : Int32 → jx_M → Prop) (a0 a1 a2 : Value) : jx_I d 55 [a0, a1, a2] M q ↔ jx_Ev d 55 0 [some a0, some a1, some a2] [] M (jx_qI q) := Iff.rfl
set_option maxRecDepth 100000 in
theorem eX7_shelf :
  (∀ (d : Nat) (st : List Value) (M : jx_M) (Q : jx_Po) (l1 l2 l3 l4 l5 l6 : Option Value) (x : Nat), jx_Ev d 56 0 [some (.ref x), l1, l2, l3, l4, l5, l6] st M Q ↔ jx_Ev d 56 1 [some (.ref x), l1, l2, l3, l4, l5, l6] (.ref x :: st) M Q) ∧
  (∀ (d : Nat) (lv : List (Option Value)) (st : List Value) (M : jx_M) (Q : jx_Po), jx_Ev d 56 1 lv st M Q ↔ jx_Ev d 56 2 lv (.int 0 :: st) M Q) ∧
  (∀ (d : Nat) (lv : List (Option Value)) (st : List Value) (M : jx_M) (Q : jx_Po) (x : Int32), jx_Ev d 56 2 lv (.int x :: .ref 0 :: st) M Q ↔ jx_Ev d 56 5 lv st (jx_up M 0 9 x) Q) ∧
  (∀ (d : Nat) (st : List Value) (M : jx_M) (Q : jx_Po) (l0 l1 l3 l4 l5 l6 : Option Value) (x : Int32), jx_Ev d 56 5 [l0, l1, some (.int x), l3, l4, l5, l6] st M Q ↔ jx_Ev d 56 6 [l0, l1, some (.int x), l3, l4, l5, l6] (.int x :: st) M Q) ∧
  (∀ (d : Nat) (lv : List (Option Value)) (M : jx_M) (Q : jx_Po) (a0 : Int32), jx_Ev (d + 1) 56 6 lv [.int a0] M Q ↔ jx_I d 79 [.int a0] M (fun x M => jx_Ev (d + 1) 56 9 lv (.int x :: []) M Q)) ∧
  (∀ (d : Nat) (lv : List (Option Value)) (st : List Value) (M : jx_M) (Q : jx_Po) (x : Int32), jx_Ev d 56 9 lv (.int x :: st) M Q ↔ (if x = 0 then jx_Ev d 56 12 lv st M Q else jx_Ev d 56 14 lv st M Q)) ∧
  (∀ (d : Nat) (lv : List (Option Value)) (st : List Value) (M : jx_M) (Q : jx_Po), jx_Ev d 56 12 lv st M Q ↔ jx_Ev d 56 13 lv (.int (-1) :: st) M Q) ∧
  (∀ (d : Nat) (lv : List (Option Value)) (M : jx_M) (Q : jx_Po) (x : Int32), jx_Ev d 56 13 lv [.int x] M Q ↔ Q [.int x] M) ∧
  (∀ (d : Nat) (st : List Value) (M : jx_M) (Q : jx_Po) (l0 l2 l3 l4 l5 l6 : Option Value) (x : Int32), jx_Ev d 56 14 [l0, some (.int x), l2, l3, l4, l5, l6] st M Q ↔ jx_Ev d 56 15 [l0, some (.int x), l2, l3, l4, l5, l6] (.int x :: st) M Q) ∧
  (∀ (d : Nat) (lv : List (Option Value)) (M : jx_M) (Q : jx_Po) (a0 : Int32), jx_Ev (d + 1) 56 15 lv [.int a0] M Q ↔ jx_I d 81 [.int a0] M (fun x M => jx_Ev (d + 1) 56 18 lv (.int x :: []) M Q)) ∧
  (∀ (d : Nat) (lv : List (Option Value)) (st : List Value) (M : jx_M) (Q : jx_Po) (x : Int32), jx_Ev d 56 18 lv (.int x :: st) M Q ↔ (if x = 0 then jx_Ev d 56 40 lv st M Q else jx_Ev d 56 21 lv st M Q)) ∧
  (∀ (d : Nat) (st : List Value) (M : jx_M) (Q : jx_Po) (l0 l1 l2 l4 l5 l6 : Option Value) (x : Int32), jx_Ev d 56 21 [l0, l1, l2, some (.int x), l4, l5, l6] st M Q ↔ jx_Ev d 56 22 [l0, l1, l2, some (.int x), l4, l5, l6] (.int x :: st) M Q) ∧
  (∀ (d : Nat) (lv : List (Option Value)) (M : jx_M) (Q : jx_Po) (a0 : Int32), jx_Ev (d + 1) 56 22 lv [.int a0] M Q ↔ jx_I d 80 [.int a0] M (fun x M => jx_Ev (d + 1) 56 25 lv (.int x :: []) M Q)) ∧
  (∀ (d : Nat) (lv : List (Option Value)) (st : List Value) (M : jx_M) (Q : jx_Po) (x : Int32), jx_Ev d 56 25 lv (.int x :: st) M Q ↔ (if x = 0 then jx_Ev d 56 40 lv st M Q else jx_Ev d 56 28 lv st M Q)) ∧
  (∀ (d : Nat) (st : List Value) (M : jx_M) (Q : jx_Po) (l0 l1 l2 l3 l4 l6 : Option Value) (x : Int32), jx_Ev d 56 28 [l0, l1, l2, l3, l4, some (.int x), l6] st M Q ↔ jx_Ev d 56 30 [l0, l1, l2, l3, l4, some (.int x), l6] (.int x :: st) M Q) ∧
  (∀ (d : Nat) (lv : List (Option Value)) (st : List Value) (M : jx_M) (Q : jx_Po) (x : Int32), jx_Ev d 56 30 lv (.int x :: st) M Q ↔ (if x < 0 then jx_Ev d 56 40 lv st M Q else jx_Ev d 56 33 lv st M Q)) ∧
  (∀ (d : Nat) (st : List Value) (M : jx_M) (Q : jx_Po) (l0 l1 l2 l3 l4 l6 : Option Value) (x : Int32), jx_Ev d 56 33 [l0, l1, l2, l3, l4, some (.int x), l6] st M Q ↔ jx_Ev d 56 35 [l0, l1, l2, l3, l4, some (.int x), l6] (.int x :: st) M Q) ∧
  (∀ (d : Nat) (lv : List (Option Value)) (st : List Value) (M : jx_M) (Q : jx_Po), jx_Ev d 56 35 lv st M Q ↔ jx_Ev d 56 37 lv (.int 20 :: st) M Q) ∧
  (∀ (d : Nat) (lv : List (Option Value)) (st : List Value) (M : jx_M) (Q : jx_Po) (x z : Int32), jx_Ev d 56 37 lv (.int z :: .int x :: st) M Q ↔ (if x ≤ z then jx_Ev d 56 43 lv st M Q else jx_Ev d 56 40 lv st M Q)) ∧
  (∀ (d : Nat) (lv : List (Option Value)) (st : List Value) (M : jx_M) (Q : jx_Po), jx_Ev d 56 40 lv st M Q ↔ jx_Ev d 56 42 lv (.int (-2) :: st) M Q) ∧
  (∀ (d : Nat) (lv : List (Option Value)) (M : jx_M) (Q : jx_Po) (x : Int32), jx_Ev d 56 42 lv [.int x] M Q ↔ Q [.int x] M) ∧
  (∀ (d : Nat) (st : List Value) (M : jx_M) (Q : jx_Po) (l1 l2 l3 l4 l5 l6 : Option Value) (x : Nat), jx_Ev d 56 43 [some (.ref x), l1, l2, l3, l4, l5, l6] st M Q ↔ jx_Ev d 56 44 [some (.ref x), l1, l2, l3, l4, l5, l6] (.ref x :: st) M Q) ∧
  (∀ (d : Nat) (lv : List (Option Value)) (st : List Value) (M : jx_M) (Q : jx_Po), jx_Ev d 56 44 lv (.ref 0 :: st) M Q ↔ jx_Ev d 56 47 lv (.ref 1 :: st) M Q) ∧
  (∀ (d : Nat) (st : List Value) (M : jx_M) (Q : jx_Po) (l0 l1 l3 l4 l5 l6 : Option Value) (x : Int32), jx_Ev d 56 47 [l0, l1, some (.int x), l3, l4, l5, l6] st M Q ↔ jx_Ev d 56 48 [l0, l1, some (.int x), l3, l4, l5, l6] (.int x :: st) M Q) ∧
  (∀ (d : Nat) (lv : List (Option Value)) (st : List Value) (M : jx_M) (Q : jx_Po) (x : Int32), jx_Ev d 56 48 lv (.int x :: .ref 1 :: st) M Q ↔ (vp_in x 4 ∧ jx_Ev d 56 49 lv (.ref (jx_sp x) :: st) M Q)) ∧
  (∀ (d : Nat) (st : List Value) (M : jx_M) (Q : jx_Po) (l0 l1 l2 l4 l5 l6 : Option Value) (x : Int32), jx_Ev d 56 49 [l0, l1, l2, some (.int x), l4, l5, l6] st M Q ↔ jx_Ev d 56 50 [l0, l1, l2, some (.int x), l4, l5, l6] (.int x :: st) M Q) ∧
  (∀ (d : Nat) (st : List Value) (M : jx_M) (Q : jx_Po) (l0 l1 l2 l3 l5 l6 : Option Value) (x : Int32), jx_Ev d 56 50 [l0, l1, l2, l3, some (.int x), l5, l6] st M Q ↔ jx_Ev d 56 52 [l0, l1, l2, l3, some (.int x), l5, l6] (.int x :: st) M Q) ∧
  (∀ (d : Nat) (st : List Value) (M : jx_M) (Q : jx_Po) (l0 l1 l2 l3 l4 l6 : Option Value) (x : Int32), jx_Ev d 56 52 [l0, l1, l2, l3, l4, some (.int x), l6] st M Q ↔ jx_Ev d 56 54 [l0, l1, l2, l3, l4, some (.int x), l6] (.int x :: st) M Q) ∧
  (∀ (d : Nat) (lv : List (Option Value)) (M : jx_M) (Q : jx_Po) (a0 : Int32) (a1 : Int32) (a2 : Int32) (a3 : Nat) (hk : jx_cl a3 = 4), jx_Ev (d + 1) 56 54 lv [.int a0, .int a1, .int a2, .ref a3] M Q ↔ jx_I d 22 [.ref a3, .int a2, .int a1, .int a0] M (fun x M => jx_Ev (d + 1) 56 57 lv (.int x :: []) M Q)) ∧
  (∀ (d : Nat) (st : List Value) (M : jx_M) (Q : jx_Po) (l0 l1 l2 l3 l4 l5 l6 : Option Value) (x : Int32), jx_Ev d 56 57 [l0, l1, l2, l3, l4, l5, l6] (.int x :: st) M Q ↔ jx_Ev d 56 59 [l0, l1, l2, l3, l4, l5, some (.int x)] st M Q) ∧
  (∀ (d : Nat) (st : List Value) (M : jx_M) (Q : jx_Po) (l0 l1 l2 l3 l4 l5 : Option Value) (x : Int32), jx_Ev d 56 59 [l0, l1, l2, l3, l4, l5, some (.int x)] st M Q ↔ jx_Ev d 56 61 [l0, l1, l2, l3, l4, l5, some (.int x)] (.int x :: st) M Q) ∧
  (∀ (d : Nat) (lv : List (Option Value)) (st : List Value) (M : jx_M) (Q : jx_Po) (x : Int32), jx_Ev d 56 61 lv (.int x :: st) M Q ↔ (if x = 0 then jx_Ev d 56 71 lv st M Q else jx_Ev d 56 64 lv st M Q)) ∧
  (∀ (d : Nat) (st : List Value) (M : jx_M) (Q : jx_Po) (l1 l2 l3 l4 l5 l6 : Option Value) (x : Nat), jx_Ev d 56 64 [some (.ref x), l1, l2, l3, l4, l5, l6] st M Q ↔ jx_Ev d 56 65 [some (.ref x), l1, l2, l3, l4, l5, l6] (.ref x :: st) M Q) ∧
  (∀ (d : Nat) (st : List Value) (M : jx_M) (Q : jx_Po) (l0 l1 l2 l3 l4 l5 : Option Value) (x : Int32), jx_Ev d 56 65 [l0, l1, l2, l3, l4, l5, some (.int x)] st M Q ↔ jx_Ev d 56 67 [l0, l1, l2, l3, l4, l5, some (.int x)] (.int x :: st) M Q) ∧
  (∀ (d : Nat) (lv : List (Option Value)) (M : jx_M) (Q : jx_Po) (a0 : Int32), jx_Ev (d + 1) 56 67 lv [.int a0, .ref 0] M Q ↔ jx_I d 82 [.ref 0, .int a0] M (fun x M => jx_Ev (d + 1) 56 70 lv (.int x :: []) M Q)) ∧
  (∀ (d : Nat) (lv : List (Option Value)) (M : jx_M) (Q : jx_Po) (x : Int32), jx_Ev d 56 70 lv [.int x] M Q ↔ Q [.int x] M) ∧
  (∀ (d : Nat) (st : List Value) (M : jx_M) (Q : jx_Po) (l1 l2 l3 l4 l5 l6 : Option Value) (x : Nat), jx_Ev d 56 71 [some (.ref x), l1, l2, l3, l4, l5, l6] st M Q ↔ jx_Ev d 56 72 [some (.ref x), l1, l2, l3, l4, l5, l6] (.ref x :: st) M Q) ∧
  (∀ (d : Nat) (lv : List (Option Value)) (st : List Value) (M : jx_M) (Q : jx_Po), jx_Ev d 56 72 lv (.ref 0 :: st) M Q ↔ jx_Ev d 56 75 lv (.ref 13 :: st) M Q) ∧
  (∀ (d : Nat) (st : List Value) (M : jx_M) (Q : jx_Po) (l1 l2 l3 l4 l5 l6 : Option Value) (x : Nat), jx_Ev d 56 75 [some (.ref x), l1, l2, l3, l4, l5, l6] st M Q ↔ jx_Ev d 56 76 [some (.ref x), l1, l2, l3, l4, l5, l6] (.ref x :: st) M Q) ∧
  (∀ (d : Nat) (lv : List (Option Value)) (st : List Value) (M : jx_M) (Q : jx_Po), jx_Ev d 56 76 lv (.ref 0 :: st) M Q ↔ jx_Ev d 56 79 lv (jx_rv (M 0 6) :: st) M Q) ∧
  (∀ (d : Nat) (st : List Value) (M : jx_M) (Q : jx_Po) (l0 l2 l3 l4 l5 l6 : Option Value) (x : Int32), jx_Ev d 56 79 [l0, some (.int x), l2, l3, l4, l5, l6] st M Q ↔ jx_Ev d 56 80 [l0, some (.int x), l2, l3, l4, l5, l6] (.int x :: st) M Q) ∧
  (∀ (d : Nat) (lv : List (Option Value)) (M : jx_M) (Q : jx_Po) (a0 : Int32) (a1 : Nat), jx_Ev (d + 1) 56 80 lv [.int a0, .ref a1, .ref 13] M Q ↔ jx_V d 25 [.ref 13, .ref a1, .int a0] M (fun M => jx_Ev (d + 1) 56 83 lv [] M Q)) ∧
  (∀ (d : Nat) (st : List Value) (M : jx_M) (Q : jx_Po) (l1 l2 l3 l4 l5 l6 : Option Value) (x : Nat), jx_Ev d 56 83 [some (.ref x), l1, l2, l3, l4, l5, l6] st M Q ↔ jx_Ev d 56 84 [some (.ref x), l1, l2, l3, l4, l5, l6] (.ref x :: st) M Q) ∧
  (∀ (d : Nat) (lv : List (Option Value)) (st : List Value) (M : jx_M) (Q : jx_Po), jx_Ev d 56 84 lv (.ref 0 :: st) M Q ↔ jx_Ev d 56 87 lv (.ref 13 :: st) M Q) ∧
  (∀ (d : Nat) (st : List Value) (M : jx_M) (Q : jx_Po) (l1 l2 l3 l4 l5 l6 : Option Value) (x : Nat), jx_Ev d 56 87 [some (.ref x), l1, l2, l3, l4, l5, l6] st M Q ↔ jx_Ev d 56 88 [some (.ref x), l1, l2, l3, l4, l5, l6] (.ref x :: st) M Q) ∧
  (∀ (d : Nat) (lv : List (Option Value)) (st : List Value) (M : jx_M) (Q : jx_Po), jx_Ev d 56 88 lv (.ref 0 :: st) M Q ↔ jx_Ev d 56 91 lv (.ref 1 :: st) M Q) ∧
  (∀ (d : Nat) (st : List Value) (M : jx_M) (Q : jx_Po) (l0 l1 l3 l4 l5 l6 : Option Value) (x : Int32), jx_Ev d 56 91 [l0, l1, some (.int x), l3, l4, l5, l6] st M Q ↔ jx_Ev d 56 92 [l0, l1, some (.int x), l3, l4, l5, l6] (.int x :: st) M Q) ∧
  (∀ (d : Nat) (lv : List (Option Value)) (st : List Value) (M : jx_M) (Q : jx_Po) (x : Int32), jx_Ev d 56 92 lv (.int x :: .ref 1 :: st) M Q ↔ (vp_in x 4 ∧ jx_Ev d 56 93 lv (.ref (jx_sp x) :: st) M Q)) ∧
  (∀ (d : Nat) (st : List Value) (M : jx_M) (Q : jx_Po) (l0 l1 l2 l3 l5 l6 : Option Value) (x : Int32), jx_Ev d 56 93 [l0, l1, l2, l3, some (.int x), l5, l6] st M Q ↔ jx_Ev d 56 95 [l0, l1, l2, l3, some (.int x), l5, l6] (.int x :: st) M Q) ∧
  (∀ (d : Nat) (st : List Value) (M : jx_M) (Q : jx_Po) (l0 l1 l2 l3 l4 l6 : Option Value) (x : Int32), jx_Ev d 56 95 [l0, l1, l2, l3, l4, some (.int x), l6] st M Q ↔ jx_Ev d 56 97 [l0, l1, l2, l3, l4, some (.int x), l6] (.int x :: st) M Q) ∧
  (∀ (d : Nat) (lv : List (Option Value)) (M : jx_M) (Q : jx_Po) (a0 : Int32) (a1 : Int32) (a2 : Nat), jx_Ev (d + 1) 56 97 lv [.int a0, .int a1, .ref a2, .ref 13] M Q ↔ jx_I d 26 [.ref 13, .ref a2, .int a1, .int a0] M (fun x M => jx_Ev (d + 1) 56 100 lv (.int x :: []) M Q)) ∧
  (∀ (d : Nat) (lv : List (Option Value)) (st : List Value) (M : jx_M) (Q : jx_Po) (x : Int32), jx_Ev d 56 100 lv (.int x :: st) M Q ↔ (if x = 0 then jx_Ev d 56 115 lv st M Q else jx_Ev d 56 103 lv st M Q)) ∧
  (∀ (d : Nat) (st : List Value) (M : jx_M) (Q : jx_Po) (l1 l2 l3 l4 l5 l6 : Option Value) (x : Nat), jx_Ev d 56 103 [some (.ref x), l1, l2, l3, l4, l5, l6] st M Q ↔ jx_Ev d 56 104 [some (.ref x), l1, l2, l3, l4, l5, l6] (.ref x :: st) M Q) ∧
  (∀ (d : Nat) (lv : List (Option Value)) (st : List Value) (M : jx_M) (Q : jx_Po), jx_Ev d 56 104 lv (.ref 0 :: st) M Q ↔ jx_Ev d 56 107 lv (.ref 13 :: st) M Q) ∧
  (∀ (d : Nat) (st : List Value) (M : jx_M) (Q : jx_Po) (l0 l1 l2 l3 l4 l6 : Option Value) (x : Int32), jx_Ev d 56 107 [l0, l1, l2, l3, l4, some (.int x), l6] st M Q ↔ jx_Ev d 56 109 [l0, l1, l2, l3, l4, some (.int x), l6] (.int x :: st) M Q) ∧
  (∀ (d : Nat) (lv : List (Option Value)) (M : jx_M) (Q : jx_Po) (a0 : Int32), jx_Ev (d + 1) 56 109 lv [.int a0, .ref 13] M Q ↔ jx_I d 28 [.ref 13, .int a0] M (fun x M => jx_Ev (d + 1) 56 112 lv (.int x :: []) M Q)) ∧
  (∀ (d : Nat) (lv : List (Option Value)) (st : List Value) (M : jx_M) (Q : jx_Po), jx_Ev d 56 112 lv st M Q ↔ jx_Ev d 56 116 lv st M Q) ∧
  (∀ (d : Nat) (lv : List (Option Value)) (st : List Value) (M : jx_M) (Q : jx_Po), jx_Ev d 56 115 lv st M Q ↔ jx_Ev d 56 116 lv (.int (-1) :: st) M Q) ∧
  (∀ (d : Nat) (lv : List (Option Value)) (M : jx_M) (Q : jx_Po) (x : Int32), jx_Ev d 56 116 lv [.int x] M Q ↔ Q [.int x] M) := by
  refine ⟨?_, ?_, ?_, ?_, ?_, ?_, ?_, ?_, ?_, ?_, ?_, ?_, ?_, ?_, ?_, ?_, ?_, ?_, ?_, ?_, ?_, ?_, ?_, ?_, ?_, ?_, ?_, ?_, ?_, ?_, ?_, ?_, ?_, ?_, ?_, ?_, ?_, ?_, ?_, ?_, ?_, ?_, ?_, ?_, ?_, ?_, ?_, ?_, ?_, ?_, ?_, ?_, ?_, ?_, ?_, ?_, ?_, ?_, ?_⟩
  · exact fun d st M Q l1 l2 l3 l4 l5 l6 x => jx_ev_st (jx_fok (by decide +kernel : decode (jx_mb 56) 0 = .ok (.aload_n 0, 1))) rfl rfl rfl
  · exact fun d lv st M Q => jx_ev_st (jx_fok (by decide +kernel : decode (jx_mb 56) 1 = .ok (.iconst 0, 1))) rfl rfl rfl
  · exact fun d lv st M Q x => jx_k_pf0 (jx_fok (by decide +kernel : decode (jx_mb 56) 2 = .ok (.putfield 66, 3))) rfl rfl rfl
  · exact fun d st M Q l0 l1 l3 l4 l5 l6 x => jx_ev_st (jx_fok (by decide +kernel : decode (jx_mb 56) 5 = .ok (.iload_n 2, 1))) rfl rfl rfl
  · exact fun d lv M Q a0 => jx_ev_ci (jx_fok (by decide +kernel : decode (jx_mb 56) 6 = .ok (.invokestatic 70, 3))) rfl (jx_ccS (As := [.int a0]) (rest := []) rfl rfl rfl rfl rfl) (by decide)
  · exact fun d lv st M Q x => jx_k_b1n (jx_fok (by decide +kernel : decode (jx_mb 56) 9 = .ok (.ifCond .ne 5, 3))) rfl jx_hNe
  · exact fun d lv st M Q => jx_ev_st (jx_fok (by decide +kernel : decode (jx_mb 56) 12 = .ok (.iconst (-1), 1))) rfl rfl rfl
  · exact fun d lv M Q x => jx_k_ri (jx_fok (by decide +kernel : decode (jx_mb 56) 13 = .ok (.ireturn, 1))) rfl
  · exact fun d st M Q l0 l2 l3 l4 l5 l6 x => jx_ev_st (jx_fok (by decide +kernel : decode (jx_mb 56) 14 = .ok (.iload_n 1, 1))) rfl rfl rfl
  · exact fun d lv M Q a0 => jx_ev_ci (jx_fok (by decide +kernel : decode (jx_mb 56) 15 = .ok (.invokestatic 130, 3))) rfl (jx_ccS (As := [.int a0]) (rest := []) rfl rfl rfl rfl rfl) (by decide)
  · exact fun d lv st M Q x => jx_k_b1 (jx_fok (by decide +kernel : decode (jx_mb 56) 18 = .ok (.ifCond .eq 22, 3))) rfl jx_hEq
  · exact fun d st M Q l0 l1 l2 l4 l5 l6 x => jx_ev_st (jx_fok (by decide +kernel : decode (jx_mb 56) 21 = .ok (.iload_n 3, 1))) rfl rfl rfl
  · exact fun d lv M Q a0 => jx_ev_ci (jx_fok (by decide +kernel : decode (jx_mb 56) 22 = .ok (.invokestatic 74, 3))) rfl (jx_ccS (As := [.int a0]) (rest := []) rfl rfl rfl rfl rfl) (by decide)
  · exact fun d lv st M Q x => jx_k_b1 (jx_fok (by decide +kernel : decode (jx_mb 56) 25 = .ok (.ifCond .eq 15, 3))) rfl jx_hEq
  · exact fun d st M Q l0 l1 l2 l3 l4 l6 x => jx_ev_st (jx_fok (by decide +kernel : decode (jx_mb 56) 28 = .ok (.iload 5, 2))) rfl rfl rfl
  · exact fun d lv st M Q x => jx_k_b1 (jx_fok (by decide +kernel : decode (jx_mb 56) 30 = .ok (.ifCond .lt 10, 3))) rfl jx_hLt
  · exact fun d st M Q l0 l1 l2 l3 l4 l6 x => jx_ev_st (jx_fok (by decide +kernel : decode (jx_mb 56) 33 = .ok (.iload 5, 2))) rfl rfl rfl
  · exact fun d lv st M Q => jx_ev_st (jx_fok (by decide +kernel : decode (jx_mb 56) 35 = .ok (.bipush 20, 2))) rfl rfl rfl
  · exact fun d lv st M Q x z => jx_k_b2 (jx_fok (by decide +kernel : decode (jx_mb 56) 37 = .ok (.if_icmp .le 6, 3))) rfl jx_hLe
  · exact fun d lv st M Q => jx_ev_st (jx_fok (by decide +kernel : decode (jx_mb 56) 40 = .ok (.bipush (-2), 2))) rfl rfl rfl
  · exact fun d lv M Q x => jx_k_ri (jx_fok (by decide +kernel : decode (jx_mb 56) 42 = .ok (.ireturn, 1))) rfl
  · exact fun d st M Q l1 l2 l3 l4 l5 l6 x => jx_ev_st (jx_fok (by decide +kernel : decode (jx_mb 56) 43 = .ok (.aload_n 0, 1))) rfl rfl rfl
  · exact fun d lv st M Q => jx_k_gf (jx_fok (by decide +kernel : decode (jx_mb 56) 44 = .ok (.getfield 13, 3))) rfl rfl rfl
  · exact fun d st M Q l0 l1 l3 l4 l5 l6 x => jx_ev_st (jx_fok (by decide +kernel : decode (jx_mb 56) 47 = .ok (.iload_n 2, 1))) rfl rfl rfl
  · exact fun d lv st M Q x => jx_k_aa (jx_fok (by decide +kernel : decode (jx_mb 56) 48 = .ok (.aaload, 1)))
  · exact fun d st M Q l0 l1 l2 l4 l5 l6 x => jx_ev_st (jx_fok (by decide +kernel : decode (jx_mb 56) 49 = .ok (.iload_n 3, 1))) rfl rfl rfl
  · exact fun d st M Q l0 l1 l2 l3 l5 l6 x => jx_ev_st (jx_fok (by decide +kernel : decode (jx_mb 56) 50 = .ok (.iload 4, 2))) rfl rfl rfl
  · exact fun d st M Q l0 l1 l2 l3 l4 l6 x => jx_ev_st (jx_fok (by decide +kernel : decode (jx_mb 56) 52 = .ok (.iload 5, 2))) rfl rfl rfl
  · exact fun d lv M Q a0 a1 a2 a3 hk => jx_ev_ci (jx_fok (by decide +kernel : decode (jx_mb 56) 54 = .ok (.invokevirtual 77, 3))) rfl (jx_ccV (As := [.int a2, .int a1, .int a0]) (rest := []) rfl rfl rfl hk rfl rfl) (by decide)
  · exact fun d st M Q l0 l1 l2 l3 l4 l5 l6 x => jx_ev_st (jx_fok (by decide +kernel : decode (jx_mb 56) 57 = .ok (.istore 6, 2))) rfl rfl rfl
  · exact fun d st M Q l0 l1 l2 l3 l4 l5 x => jx_ev_st (jx_fok (by decide +kernel : decode (jx_mb 56) 59 = .ok (.iload 6, 2))) rfl rfl rfl
  · exact fun d lv st M Q x => jx_k_b1 (jx_fok (by decide +kernel : decode (jx_mb 56) 61 = .ok (.ifCond .eq 10, 3))) rfl jx_hEq
  · exact fun d st M Q l1 l2 l3 l4 l5 l6 x => jx_ev_st (jx_fok (by decide +kernel : decode (jx_mb 56) 64 = .ok (.aload_n 0, 1))) rfl rfl rfl
  · exact fun d st M Q l0 l1 l2 l3 l4 l5 x => jx_ev_st (jx_fok (by decide +kernel : decode (jx_mb 56) 65 = .ok (.iload 6, 2))) rfl rfl rfl
  · exact fun d lv M Q a0 => jx_ev_ci (jx_fok (by decide +kernel : decode (jx_mb 56) 67 = .ok (.invokevirtual 81, 3))) rfl (jx_ccV (As := [.int a0]) (rest := []) rfl rfl rfl rfl rfl rfl) (by decide)
  · exact fun d lv M Q x => jx_k_ri (jx_fok (by decide +kernel : decode (jx_mb 56) 70 = .ok (.ireturn, 1))) rfl
  · exact fun d st M Q l1 l2 l3 l4 l5 l6 x => jx_ev_st (jx_fok (by decide +kernel : decode (jx_mb 56) 71 = .ok (.aload_n 0, 1))) rfl rfl rfl
  · exact fun d lv st M Q => jx_k_gf (jx_fok (by decide +kernel : decode (jx_mb 56) 72 = .ok (.getfield 48, 3))) rfl rfl rfl
  · exact fun d st M Q l1 l2 l3 l4 l5 l6 x => jx_ev_st (jx_fok (by decide +kernel : decode (jx_mb 56) 75 = .ok (.aload_n 0, 1))) rfl rfl rfl
  · exact fun d lv st M Q => jx_k_gf (jx_fok (by decide +kernel : decode (jx_mb 56) 76 = .ok (.getfield 55, 3))) rfl rfl rfl
  · exact fun d st M Q l0 l2 l3 l4 l5 l6 x => jx_ev_st (jx_fok (by decide +kernel : decode (jx_mb 56) 79 = .ok (.iload_n 1, 1))) rfl rfl rfl
  · exact fun d lv M Q a0 a1 => jx_ev_cv (jx_fok (by decide +kernel : decode (jx_mb 56) 80 = .ok (.invokevirtual 182, 3))) rfl (jx_ccV (As := [.ref a1, .int a0]) (rest := []) rfl rfl rfl rfl rfl rfl) rfl
  · exact fun d st M Q l1 l2 l3 l4 l5 l6 x => jx_ev_st (jx_fok (by decide +kernel : decode (jx_mb 56) 83 = .ok (.aload_n 0, 1))) rfl rfl rfl
  · exact fun d lv st M Q => jx_k_gf (jx_fok (by decide +kernel : decode (jx_mb 56) 84 = .ok (.getfield 48, 3))) rfl rfl rfl
  · exact fun d st M Q l1 l2 l3 l4 l5 l6 x => jx_ev_st (jx_fok (by decide +kernel : decode (jx_mb 56) 87 = .ok (.aload_n 0, 1))) rfl rfl rfl
  · exact fun d lv st M Q => jx_k_gf (jx_fok (by decide +kernel : decode (jx_mb 56) 88 = .ok (.getfield 13, 3))) rfl rfl rfl
  · exact fun d st M Q l0 l1 l3 l4 l5 l6 x => jx_ev_st (jx_fok (by decide +kernel : decode (jx_mb 56) 91 = .ok (.iload_n 2, 1))) rfl rfl rfl
  · exact fun d lv st M Q x => jx_k_aa (jx_fok (by decide +kernel : decode (jx_mb 56) 92 = .ok (.aaload, 1)))
  · exact fun d st M Q l0 l1 l2 l3 l5 l6 x => jx_ev_st (jx_fok (by decide +kernel : decode (jx_mb 56) 93 = .ok (.iload 4, 2))) rfl rfl rfl
  · exact fun d st M Q l0 l1 l2 l3 l4 l6 x => jx_ev_st (jx_fok (by decide +kernel : decode (jx_mb 56) 95 = .ok (.iload 5, 2))) rfl rfl rfl
  · exact fun d lv M Q a0 a1 a2 => jx_ev_ci (jx_fok (by decide +kernel : decode (jx_mb 56) 97 = .ok (.invokevirtual 185, 3))) rfl (jx_ccV (As := [.ref a2, .int a1, .int a0]) (rest := []) rfl rfl rfl rfl rfl rfl) (by decide)
  · exact fun d lv st M Q x => jx_k_b1 (jx_fok (by decide +kernel : decode (jx_mb 56) 100 = .ok (.ifCond .eq 15, 3))) rfl jx_hEq
  · exact fun d st M Q l1 l2 l3 l4 l5 l6 x => jx_ev_st (jx_fok (by decide +kernel : decode (jx_mb 56) 103 = .ok (.aload_n 0, 1))) rfl rfl rfl
  · exact fun d lv st M Q => jx_k_gf (jx_fok (by decide +kernel : decode (jx_mb 56) 104 = .ok (.getfield 48, 3))) rfl rfl rfl
  · exact fun d st M Q l0 l1 l2 l3 l4 l6 x => jx_ev_st (jx_fok (by decide +kernel : decode (jx_mb 56) 107 = .ok (.iload 5, 2))) rfl rfl rfl
  · exact fun d lv M Q a0 => jx_ev_ci (jx_fok (by decide +kernel : decode (jx_mb 56) 109 = .ok (.invokevirtual 188, 3))) rfl (jx_ccV (As := [.int a0]) (rest := []) rfl rfl rfl rfl rfl rfl) (by decide)
  · exact fun d lv st M Q => jx_k_goto (jx_fok (by decide +kernel : decode (jx_mb 56) 112 = .ok (.goto 4, 3))) rfl
  · exact fun d lv st M Q => jx_ev_st (jx_fok (by decide +kernel : decode (jx_mb 56) 115 = .ok (.iconst (-1), 1))) rfl rfl rfl
  · exact fun d lv M Q x => jx_k_ri (jx_fok (by decide +kernel : decode (jx_mb 56) 116 = .ok (.ireturn, 1))) rfl
theorem kX7_shelf (d : Nat) (M : jx_M) (q : Int32 → jx_M → Prop) (a0 a1 a2 a3 a4 a5 : Value) : jx_I d 56 [a0, a1, a2, a3, a4, a5] M q ↔ jx_Ev d 56 0 [some a0, some a1, some a2, some a3, some a4, some a5, none] [] M (jx_qI q) := Iff.rfl
set_option maxRecDepth 100000 in
theorem eX7_order :
  (∀ (d : Nat) (st : List Value) (M : jx_M) (Q : jx_Po) (l0 l2 : Option Value) (x : Int32), jx_Ev d 57 0 [l0, some (.int x), l2] st M Q ↔ jx_Ev d 57 1 [l0, some (.int x), l2] (.int x :: st) M Q) ∧
  (∀ (d : Nat) (lv : List (Option Value)) (M : jx_M) (Q : jx_Po) (a0 : Int32), jx_Ev (d + 1) 57 1 lv [.int a0] M Q ↔ jx_I d 81 [.int a0] M (fun x M => jx_Ev (d + 1) 57 4 lv (.int x :: []) M Q)) ∧
  (∀ (d : Nat) (lv : List (Option Value)) (st : List Value) (M : jx_M) (Q : jx_Po) (x : Int32), jx_Ev d 57 4 lv (.int x :: st) M Q ↔ (if x = 0 then jx_Ev d 57 17 lv st M Q else jx_Ev d 57 7 lv st M Q)) ∧
  (∀ (d : Nat) (st : List Value) (M : jx_M) (Q : jx_Po) (l0 l1 : Option Value) (x : Int32), jx_Ev d 57 7 [l0, l1, some (.int x)] st M Q ↔ jx_Ev d 57 8 [l0, l1, some (.int x)] (.int x :: st) M Q) ∧
  (∀ (d : Nat) (lv : List (Option Value)) (st : List Value) (M : jx_M) (Q : jx_Po) (x : Int32), jx_Ev d 57 8 lv (.int x :: st) M Q ↔ (if x < 0 then jx_Ev d 57 17 lv st M Q else jx_Ev d 57 11 lv st M Q)) ∧
  (∀ (d : Nat) (st : List Value) (M : jx_M) (Q : jx_Po) (l0 l1 : Option Value) (x : Int32), jx_Ev d 57 11 [l0, l1, some (.int x)] st M Q ↔ jx_Ev d 57 12 [l0, l1, some (.int x)] (.int x :: st) M Q) ∧
  (∀ (d : Nat) (lv : List (Option Value)) (st : List Value) (M : jx_M) (Q : jx_Po), jx_Ev d 57 12 lv st M Q ↔ jx_Ev d 57 14 lv (.int 6 :: st) M Q) ∧
  (∀ (d : Nat) (lv : List (Option Value)) (st : List Value) (M : jx_M) (Q : jx_Po) (x z : Int32), jx_Ev d 57 14 lv (.int z :: .int x :: st) M Q ↔ (if x < z then jx_Ev d 57 20 lv st M Q else jx_Ev d 57 17 lv st M Q)) ∧
  (∀ (d : Nat) (lv : List (Option Value)) (st : List Value) (M : jx_M) (Q : jx_Po), jx_Ev d 57 17 lv st M Q ↔ jx_Ev d 57 19 lv (.int (-2) :: st) M Q) ∧
  (∀ (d : Nat) (lv : List (Option Value)) (M : jx_M) (Q : jx_Po) (x : Int32), jx_Ev d 57 19 lv [.int x] M Q ↔ Q [.int x] M) ∧
  (∀ (d : Nat) (st : List Value) (M : jx_M) (Q : jx_Po) (l1 l2 : Option Value) (x : Nat), jx_Ev d 57 20 [some (.ref x), l1, l2] st M Q ↔ jx_Ev d 57 21 [some (.ref x), l1, l2] (.ref x :: st) M Q) ∧
  (∀ (d : Nat) (lv : List (Option Value)) (st : List Value) (M : jx_M) (Q : jx_Po), jx_Ev d 57 21 lv (.ref 0 :: st) M Q ↔ jx_Ev d 57 24 lv (jx_rv (M 0 6) :: st) M Q) ∧
  (∀ (d : Nat) (lv : List (Option Value)) (M : jx_M) (Q : jx_Po) (a0 : Nat) (hk : jx_cl a0 = 1), jx_Ev (d + 1) 57 24 lv [.ref a0] M Q ↔ jx_I d 4 [.ref a0] M (fun x M => jx_Ev (d + 1) 57 27 lv (.int x :: []) M Q)) ∧
  (∀ (d : Nat) (lv : List (Option Value)) (st : List Value) (M : jx_M) (Q : jx_Po) (x : Int32), jx_Ev d 57 27 lv (.int x :: st) M Q ↔ (if x = 0 then jx_Ev d 57 30 lv st M Q else jx_Ev d 57 33 lv st M Q)) ∧
  (∀ (d : Nat) (lv : List (Option Value)) (st : List Value) (M : jx_M) (Q : jx_Po), jx_Ev d 57 30 lv st M Q ↔ jx_Ev d 57 32 lv (.int (-3) :: st) M Q) ∧
  (∀ (d : Nat) (lv : List (Option Value)) (M : jx_M) (Q : jx_Po) (x : Int32), jx_Ev d 57 32 lv [.int x] M Q ↔ Q [.int x] M) ∧
  (∀ (d : Nat) (st : List Value) (M : jx_M) (Q : jx_Po) (l0 l1 : Option Value) (x : Int32), jx_Ev d 57 33 [l0, l1, some (.int x)] st M Q ↔ jx_Ev d 57 34 [l0, l1, some (.int x)] (.int x :: st) M Q) ∧
  (∀ (d : Nat) (st : List Value) (M : jx_M) (Q : jx_Po) (l1 l2 : Option Value) (x : Nat), jx_Ev d 57 34 [some (.ref x), l1, l2] st M Q ↔ jx_Ev d 57 35 [some (.ref x), l1, l2] (.ref x :: st) M Q) ∧
  (∀ (d : Nat) (lv : List (Option Value)) (st : List Value) (M : jx_M) (Q : jx_Po), jx_Ev d 57 35 lv (.ref 0 :: st) M Q ↔ jx_Ev d 57 38 lv (jx_rv (M 0 6) :: st) M Q) ∧
  (∀ (d : Nat) (lv : List (Option Value)) (st : List Value) (M : jx_M) (Q : jx_Po) (k : Nat) (hk : jx_cl k = 1), jx_Ev d 57 38 lv (.ref k :: st) M Q ↔ jx_Ev d 57 41 lv (.int (M k 6) :: st) M Q) ∧
  (∀ (d : Nat) (lv : List (Option Value)) (st : List Value) (M : jx_M) (Q : jx_Po) (x z : Int32), jx_Ev d 57 41 lv (.int z :: .int x :: st) M Q ↔ (if x < z then jx_Ev d 57 47 lv st M Q else jx_Ev d 57 44 lv st M Q)) ∧
  (∀ (d : Nat) (lv : List (Option Value)) (st : List Value) (M : jx_M) (Q : jx_Po), jx_Ev d 57 44 lv st M Q ↔ jx_Ev d 57 46 lv (.int (-9) :: st) M Q) ∧
  (∀ (d : Nat) (lv : List (Option Value)) (M : jx_M) (Q : jx_Po) (x : Int32), jx_Ev d 57 46 lv [.int x] M Q ↔ Q [.int x] M) ∧
  (∀ (d : Nat) (st : List Value) (M : jx_M) (Q : jx_Po) (l1 l2 : Option Value) (x : Nat), jx_Ev d 57 47 [some (.ref x), l1, l2] st M Q ↔ jx_Ev d 57 48 [some (.ref x), l1, l2] (.ref x :: st) M Q) ∧
  (∀ (d : Nat) (lv : List (Option Value)) (st : List Value) (M : jx_M) (Q : jx_Po), jx_Ev d 57 48 lv (.ref 0 :: st) M Q ↔ jx_Ev d 57 51 lv (.ref 13 :: st) M Q) ∧
  (∀ (d : Nat) (st : List Value) (M : jx_M) (Q : jx_Po) (l1 l2 : Option Value) (x : Nat), jx_Ev d 57 51 [some (.ref x), l1, l2] st M Q ↔ jx_Ev d 57 52 [some (.ref x), l1, l2] (.ref x :: st) M Q) ∧
  (∀ (d : Nat) (lv : List (Option Value)) (st : List Value) (M : jx_M) (Q : jx_Po), jx_Ev d 57 52 lv (.ref 0 :: st) M Q ↔ jx_Ev d 57 55 lv (jx_rv (M 0 6) :: st) M Q) ∧
  (∀ (d : Nat) (st : List Value) (M : jx_M) (Q : jx_Po) (l0 l2 : Option Value) (x : Int32), jx_Ev d 57 55 [l0, some (.int x), l2] st M Q ↔ jx_Ev d 57 56 [l0, some (.int x), l2] (.int x :: st) M Q) ∧
  (∀ (d : Nat) (lv : List (Option Value)) (M : jx_M) (Q : jx_Po) (a0 : Int32) (a1 : Nat), jx_Ev (d + 1) 57 56 lv [.int a0, .ref a1, .ref 13] M Q ↔ jx_V d 25 [.ref 13, .ref a1, .int a0] M (fun M => jx_Ev (d + 1) 57 59 lv [] M Q)) ∧
  (∀ (d : Nat) (st : List Value) (M : jx_M) (Q : jx_Po) (l1 l2 : Option Value) (x : Nat), jx_Ev d 57 59 [some (.ref x), l1, l2] st M Q ↔ jx_Ev d 57 60 [some (.ref x), l1, l2] (.ref x :: st) M Q) ∧
  (∀ (d : Nat) (lv : List (Option Value)) (st : List Value) (M : jx_M) (Q : jx_Po), jx_Ev d 57 60 lv (.ref 0 :: st) M Q ↔ jx_Ev d 57 63 lv (.ref 13 :: st) M Q) ∧
  (∀ (d : Nat) (lv : List (Option Value)) (M : jx_M) (Q : jx_Po), jx_Ev (d + 1) 57 63 lv [.ref 13] M Q ↔ jx_I d 30 [.ref 13] M (fun x M => jx_Ev (d + 1) 57 66 lv (.int x :: []) M Q)) ∧
  (∀ (d : Nat) (lv : List (Option Value)) (st : List Value) (M : jx_M) (Q : jx_Po) (x : Int32), jx_Ev d 57 66 lv (.int x :: st) M Q ↔ (if x = 0 then jx_Ev d 57 81 lv st M Q else jx_Ev d 57 69 lv st M Q)) ∧
  (∀ (d : Nat) (st : List Value) (M : jx_M) (Q : jx_Po) (l1 l2 : Option Value) (x : Nat), jx_Ev d 57 69 [some (.ref x), l1, l2] st M Q ↔ jx_Ev d 57 70 [some (.ref x), l1, l2] (.ref x :: st) M Q) ∧
  (∀ (d : Nat) (lv : List (Option Value)) (st : List Value) (M : jx_M) (Q : jx_Po), jx_Ev d 57 70 lv (.ref 0 :: st) M Q ↔ jx_Ev d 57 73 lv (.ref 13 :: st) M Q) ∧
  (∀ (d : Nat) (lv : List (Option Value)) (st : List Value) (M : jx_M) (Q : jx_Po), jx_Ev d 57 73 lv (.ref 13 :: st) M Q ↔ jx_Ev d 57 76 lv (.ref 14 :: st) M Q) ∧
  (∀ (d : Nat) (st : List Value) (M : jx_M) (Q : jx_Po) (l0 l1 : Option Value) (x : Int32), jx_Ev d 57 76 [l0, l1, some (.int x)] st M Q ↔ jx_Ev d 57 77 [l0, l1, some (.int x)] (.int x :: st) M Q) ∧
  (∀ (d : Nat) (lv : List (Option Value)) (st : List Value) (M : jx_M) (Q : jx_Po) (x : Int32) (a : Nat) (ha : jx_cl a = 9), jx_Ev d 57 77 lv (.int x :: .ref a :: st) M Q ↔ (vp_in x (jx_sz a) ∧ jx_Ev d 57 78 lv (.int (M a x.toNatClampNeg) :: st) M Q)) ∧
  (∀ (d : Nat) (lv : List (Option Value)) (st : List Value) (M : jx_M) (Q : jx_Po), jx_Ev d 57 78 lv st M Q ↔ jx_Ev d 57 83 lv st M Q) ∧
  (∀ (d : Nat) (lv : List (Option Value)) (st : List Value) (M : jx_M) (Q : jx_Po), jx_Ev d 57 81 lv st M Q ↔ jx_Ev d 57 83 lv (.int (-9) :: st) M Q) ∧
  (∀ (d : Nat) (lv : List (Option Value)) (M : jx_M) (Q : jx_Po) (x : Int32), jx_Ev d 57 83 lv [.int x] M Q ↔ Q [.int x] M) := by
  refine ⟨?_, ?_, ?_, ?_, ?_, ?_, ?_, ?_, ?_, ?_, ?_, ?_, ?_, ?_, ?_, ?_, ?_, ?_, ?_, ?_, ?_, ?_, ?_, ?_, ?_, ?_, ?_, ?_, ?_, ?_, ?_, ?_, ?_, ?_, ?_, ?_, ?_, ?_, ?_, ?_, ?_⟩
  · exact fun d st M Q l0 l2 x => jx_ev_st (jx_fok (by decide +kernel : decode (jx_mb 57) 0 = .ok (.iload_n 1, 1))) rfl rfl rfl
  · exact fun d lv M Q a0 => jx_ev_ci (jx_fok (by decide +kernel : decode (jx_mb 57) 1 = .ok (.invokestatic 130, 3))) rfl (jx_ccS (As := [.int a0]) (rest := []) rfl rfl rfl rfl rfl) (by decide)
  · exact fun d lv st M Q x => jx_k_b1 (jx_fok (by decide +kernel : decode (jx_mb 57) 4 = .ok (.ifCond .eq 13, 3))) rfl jx_hEq
  · exact fun d st M Q l0 l1 x => jx_ev_st (jx_fok (by decide +kernel : decode (jx_mb 57) 7 = .ok (.iload_n 2, 1))) rfl rfl rfl
  · exact fun d lv st M Q x => jx_k_b1 (jx_fok (by decide +kernel : decode (jx_mb 57) 8 = .ok (.ifCond .lt 9, 3))) rfl jx_hLt
  · exact fun d st M Q l0 l1 x => jx_ev_st (jx_fok (by decide +kernel : decode (jx_mb 57) 11 = .ok (.iload_n 2, 1))) rfl rfl rfl
  · exact fun d lv st M Q => jx_ev_st (jx_fok (by decide +kernel : decode (jx_mb 57) 12 = .ok (.bipush 6, 2))) rfl rfl rfl
  · exact fun d lv st M Q x z => jx_k_b2 (jx_fok (by decide +kernel : decode (jx_mb 57) 14 = .ok (.if_icmp .lt 6, 3))) rfl jx_hLt
  · exact fun d lv st M Q => jx_ev_st (jx_fok (by decide +kernel : decode (jx_mb 57) 17 = .ok (.bipush (-2), 2))) rfl rfl rfl
  · exact fun d lv M Q x => jx_k_ri (jx_fok (by decide +kernel : decode (jx_mb 57) 19 = .ok (.ireturn, 1))) rfl
  · exact fun d st M Q l1 l2 x => jx_ev_st (jx_fok (by decide +kernel : decode (jx_mb 57) 20 = .ok (.aload_n 0, 1))) rfl rfl rfl
  · exact fun d lv st M Q => jx_k_gf (jx_fok (by decide +kernel : decode (jx_mb 57) 21 = .ok (.getfield 55, 3))) rfl rfl rfl
  · exact fun d lv M Q a0 hk => jx_ev_ci (jx_fok (by decide +kernel : decode (jx_mb 57) 24 = .ok (.invokevirtual 123, 3))) rfl (jx_ccV (As := []) (rest := []) rfl rfl rfl hk rfl rfl) (by decide)
  · exact fun d lv st M Q x => jx_k_b1n (jx_fok (by decide +kernel : decode (jx_mb 57) 27 = .ok (.ifCond .ne 6, 3))) rfl jx_hNe
  · exact fun d lv st M Q => jx_ev_st (jx_fok (by decide +kernel : decode (jx_mb 57) 30 = .ok (.bipush (-3), 2))) rfl rfl rfl
  · exact fun d lv M Q x => jx_k_ri (jx_fok (by decide +kernel : decode (jx_mb 57) 32 = .ok (.ireturn, 1))) rfl
  · exact fun d st M Q l0 l1 x => jx_ev_st (jx_fok (by decide +kernel : decode (jx_mb 57) 33 = .ok (.iload_n 2, 1))) rfl rfl rfl
  · exact fun d st M Q l1 l2 x => jx_ev_st (jx_fok (by decide +kernel : decode (jx_mb 57) 34 = .ok (.aload_n 0, 1))) rfl rfl rfl
  · exact fun d lv st M Q => jx_k_gf (jx_fok (by decide +kernel : decode (jx_mb 57) 35 = .ok (.getfield 55, 3))) rfl rfl rfl
  · exact fun d lv st M Q k hk => jx_k_gf (jx_fok (by decide +kernel : decode (jx_mb 57) 38 = .ok (.getfield 92, 3))) rfl hk rfl
  · exact fun d lv st M Q x z => jx_k_b2 (jx_fok (by decide +kernel : decode (jx_mb 57) 41 = .ok (.if_icmp .lt 6, 3))) rfl jx_hLt
  · exact fun d lv st M Q => jx_ev_st (jx_fok (by decide +kernel : decode (jx_mb 57) 44 = .ok (.bipush (-9), 2))) rfl rfl rfl
  · exact fun d lv M Q x => jx_k_ri (jx_fok (by decide +kernel : decode (jx_mb 57) 46 = .ok (.ireturn, 1))) rfl
  · exact fun d st M Q l1 l2 x => jx_ev_st (jx_fok (by decide +kernel : decode (jx_mb 57) 47 = .ok (.aload_n 0, 1))) rfl rfl rfl
  · exact fun d lv st M Q => jx_k_gf (jx_fok (by decide +kernel : decode (jx_mb 57) 48 = .ok (.getfield 48, 3))) rfl rfl rfl
  · exact fun d st M Q l1 l2 x => jx_ev_st (jx_fok (by decide +kernel : decode (jx_mb 57) 51 = .ok (.aload_n 0, 1))) rfl rfl rfl
  · exact fun d lv st M Q => jx_k_gf (jx_fok (by decide +kernel : decode (jx_mb 57) 52 = .ok (.getfield 55, 3))) rfl rfl rfl
  · exact fun d st M Q l0 l2 x => jx_ev_st (jx_fok (by decide +kernel : decode (jx_mb 57) 55 = .ok (.iload_n 1, 1))) rfl rfl rfl
  · exact fun d lv M Q a0 a1 => jx_ev_cv (jx_fok (by decide +kernel : decode (jx_mb 57) 56 = .ok (.invokevirtual 182, 3))) rfl (jx_ccV (As := [.ref a1, .int a0]) (rest := []) rfl rfl rfl rfl rfl rfl) rfl
  · exact fun d st M Q l1 l2 x => jx_ev_st (jx_fok (by decide +kernel : decode (jx_mb 57) 59 = .ok (.aload_n 0, 1))) rfl rfl rfl
  · exact fun d lv st M Q => jx_k_gf (jx_fok (by decide +kernel : decode (jx_mb 57) 60 = .ok (.getfield 48, 3))) rfl rfl rfl
  · exact fun d lv M Q => jx_ev_ci (jx_fok (by decide +kernel : decode (jx_mb 57) 63 = .ok (.invokevirtual 191, 3))) rfl (jx_ccV (As := []) (rest := []) rfl rfl rfl rfl rfl rfl) (by decide)
  · exact fun d lv st M Q x => jx_k_b1 (jx_fok (by decide +kernel : decode (jx_mb 57) 66 = .ok (.ifCond .eq 15, 3))) rfl jx_hEq
  · exact fun d st M Q l1 l2 x => jx_ev_st (jx_fok (by decide +kernel : decode (jx_mb 57) 69 = .ok (.aload_n 0, 1))) rfl rfl rfl
  · exact fun d lv st M Q => jx_k_gf (jx_fok (by decide +kernel : decode (jx_mb 57) 70 = .ok (.getfield 48, 3))) rfl rfl rfl
  · exact fun d lv st M Q => jx_k_gf (jx_fok (by decide +kernel : decode (jx_mb 57) 73 = .ok (.getfield 194, 3))) rfl rfl rfl
  · exact fun d st M Q l0 l1 x => jx_ev_st (jx_fok (by decide +kernel : decode (jx_mb 57) 76 = .ok (.iload_n 2, 1))) rfl rfl rfl
  · exact fun d lv st M Q x a ha => jx_k_al (jx_fok (by decide +kernel : decode (jx_mb 57) 77 = .ok (.iaload, 1))) ha
  · exact fun d lv st M Q => jx_k_goto (jx_fok (by decide +kernel : decode (jx_mb 57) 78 = .ok (.goto 5, 3))) rfl
  · exact fun d lv st M Q => jx_ev_st (jx_fok (by decide +kernel : decode (jx_mb 57) 81 = .ok (.bipush (-9), 2))) rfl rfl rfl
  · exact fun d lv M Q x => jx_k_ri (jx_fok (by decide +kernel : decode (jx_mb 57) 83 = .ok (.ireturn, 1))) rfl
theorem kX7_order (d : Nat) (M : jx_M) (q : Int32 → jx_M → Prop) (a0 a1 a2 : Value) : jx_I d 57 [a0, a1, a2] M q ↔ jx_Ev d 57 0 [some a0, some a1, some a2] [] M (jx_qI q) := Iff.rfl
set_option maxRecDepth 100000 in
theorem eX7_reading :
  (∀ (d : Nat) (st : List Value) (M : jx_M) (Q : jx_Po) (l1 l2 l3 : Option Value) (x : Nat), jx_Ev d 58 0 [some (.ref x), l1, l2, l3] st M Q ↔ jx_Ev d 58 1 [some (.ref x), l1, l2, l3] (.ref x :: st) M Q) ∧
  (∀ (d : Nat) (lv : List (Option Value)) (st : List Value) (M : jx_M) (Q : jx_Po), jx_Ev d 58 1 lv (.ref 0 :: st) M Q ↔ jx_Ev d 58 4 lv (jx_rv (M 0 6) :: st) M Q) ∧
  (∀ (d : Nat) (st : List Value) (M : jx_M) (Q : jx_Po) (l0 l2 l3 : Option Value) (x : Int32), jx_Ev d 58 4 [l0, some (.int x), l2, l3] st M Q ↔ jx_Ev d 58 5 [l0, some (.int x), l2, l3] (.int x :: st) M Q) ∧
  (∀ (d : Nat) (lv : List (Option Value)) (M : jx_M) (Q : jx_Po) (a0 : Int32) (a1 : Nat) (hk : jx_cl a1 = 1), jx_Ev (d + 1) 58 5 lv [.int a0, .ref a1] M Q ↔ jx_I d 6 [.ref a1, .int a0] M (fun x M => jx_Ev (d + 1) 58 8 lv (.int x :: []) M Q)) ∧
  (∀ (d : Nat) (lv : List (Option Value)) (st : List Value) (M : jx_M) (Q : jx_Po) (x : Int32), jx_Ev d 58 8 lv (.int x :: st) M Q ↔ (if x = 0 then jx_Ev d 58 11 lv st M Q else jx_Ev d 58 13 lv st M Q)) ∧
  (∀ (d : Nat) (lv : List (Option Value)) (st : List Value) (M : jx_M) (Q : jx_Po), jx_Ev d 58 11 lv st M Q ↔ jx_Ev d 58 12 lv (.int (-1) :: st) M Q) ∧
  (∀ (d : Nat) (lv : List (Option Value)) (M : jx_M) (Q : jx_Po) (x : Int32), jx_Ev d 58 12 lv [.int x] M Q ↔ Q [.int x] M) ∧
  (∀ (d : Nat) (st : List Value) (M : jx_M) (Q : jx_Po) (l0 l1 l3 : Option Value) (x : Int32), jx_Ev d 58 13 [l0, l1, some (.int x), l3] st M Q ↔ jx_Ev d 58 14 [l0, l1, some (.int x), l3] (.int x :: st) M Q) ∧
  (∀ (d : Nat) (lv : List (Option Value)) (M : jx_M) (Q : jx_Po) (a0 : Int32), jx_Ev (d + 1) 58 14 lv [.int a0] M Q ↔ jx_I d 81 [.int a0] M (fun x M => jx_Ev (d + 1) 58 17 lv (.int x :: []) M Q)) ∧
  (∀ (d : Nat) (lv : List (Option Value)) (st : List Value) (M : jx_M) (Q : jx_Po) (x : Int32), jx_Ev d 58 17 lv (.int x :: st) M Q ↔ (if x = 0 then jx_Ev d 58 30 lv st M Q else jx_Ev d 58 20 lv st M Q)) ∧
  (∀ (d : Nat) (st : List Value) (M : jx_M) (Q : jx_Po) (l0 l1 l2 : Option Value) (x : Int32), jx_Ev d 58 20 [l0, l1, l2, some (.int x)] st M Q ↔ jx_Ev d 58 21 [l0, l1, l2, some (.int x)] (.int x :: st) M Q) ∧
  (∀ (d : Nat) (lv : List (Option Value)) (st : List Value) (M : jx_M) (Q : jx_Po) (x : Int32), jx_Ev d 58 21 lv (.int x :: st) M Q ↔ (if x < 0 then jx_Ev d 58 30 lv st M Q else jx_Ev d 58 24 lv st M Q)) ∧
  (∀ (d : Nat) (st : List Value) (M : jx_M) (Q : jx_Po) (l0 l1 l2 : Option Value) (x : Int32), jx_Ev d 58 24 [l0, l1, l2, some (.int x)] st M Q ↔ jx_Ev d 58 25 [l0, l1, l2, some (.int x)] (.int x :: st) M Q) ∧
  (∀ (d : Nat) (lv : List (Option Value)) (st : List Value) (M : jx_M) (Q : jx_Po), jx_Ev d 58 25 lv st M Q ↔ jx_Ev d 58 27 lv (.int 99 :: st) M Q) ∧
  (∀ (d : Nat) (lv : List (Option Value)) (st : List Value) (M : jx_M) (Q : jx_Po) (x z : Int32), jx_Ev d 58 27 lv (.int z :: .int x :: st) M Q ↔ (if x ≤ z then jx_Ev d 58 33 lv st M Q else jx_Ev d 58 30 lv st M Q)) ∧
  (∀ (d : Nat) (lv : List (Option Value)) (st : List Value) (M : jx_M) (Q : jx_Po), jx_Ev d 58 30 lv st M Q ↔ jx_Ev d 58 32 lv (.int (-2) :: st) M Q) ∧
  (∀ (d : Nat) (lv : List (Option Value)) (M : jx_M) (Q : jx_Po) (x : Int32), jx_Ev d 58 32 lv [.int x] M Q ↔ Q [.int x] M) ∧
  (∀ (d : Nat) (st : List Value) (M : jx_M) (Q : jx_Po) (l1 l2 l3 : Option Value) (x : Nat), jx_Ev d 58 33 [some (.ref x), l1, l2, l3] st M Q ↔ jx_Ev d 58 34 [some (.ref x), l1, l2, l3] (.ref x :: st) M Q) ∧
  (∀ (d : Nat) (lv : List (Option Value)) (st : List Value) (M : jx_M) (Q : jx_Po), jx_Ev d 58 34 lv (.ref 0 :: st) M Q ↔ jx_Ev d 58 37 lv (.ref 3 :: st) M Q) ∧
  (∀ (d : Nat) (st : List Value) (M : jx_M) (Q : jx_Po) (l0 l2 l3 : Option Value) (x : Int32), jx_Ev d 58 37 [l0, some (.int x), l2, l3] st M Q ↔ jx_Ev d 58 38 [l0, some (.int x), l2, l3] (.int x :: st) M Q) ∧
  (∀ (d : Nat) (st : List Value) (M : jx_M) (Q : jx_Po) (l0 l1 l3 : Option Value) (x : Int32), jx_Ev d 58 38 [l0, l1, some (.int x), l3] st M Q ↔ jx_Ev d 58 39 [l0, l1, some (.int x), l3] (.int x :: st) M Q) ∧
  (∀ (d : Nat) (st : List Value) (M : jx_M) (Q : jx_Po) (l0 l1 l2 : Option Value) (x : Int32), jx_Ev d 58 39 [l0, l1, l2, some (.int x)] st M Q ↔ jx_Ev d 58 40 [l0, l1, l2, some (.int x)] (.int x :: st) M Q) ∧
  (∀ (d : Nat) (lv : List (Option Value)) (M : jx_M) (Q : jx_Po) (a0 : Int32) (a1 : Int32) (a2 : Int32), jx_Ev (d + 1) 58 40 lv [.int a0, .int a1, .int a2, .ref 3] M Q ↔ jx_I d 18 [.ref 3, .int a2, .int a1, .int a0] M (fun x M => jx_Ev (d + 1) 58 43 lv (.int x :: []) M Q)) ∧
  (∀ (d : Nat) (lv : List (Option Value)) (M : jx_M) (Q : jx_Po) (x : Int32), jx_Ev d 58 43 lv [.int x] M Q ↔ Q [.int x] M) := by
  refine ⟨?_, ?_, ?_, ?_, ?_, ?_, ?_, ?_, ?_, ?_, ?_, ?_, ?_, ?_, ?_, ?_, ?_, ?_, ?_, ?_, ?_, ?_, ?_, ?_⟩
  · exact fun d st M Q l1 l2 l3 x => jx_ev_st (jx_fok (by decide +kernel : decode (jx_mb 58) 0 = .ok (.aload_n 0, 1))) rfl rfl rfl
  · exact fun d lv st M Q => jx_k_gf (jx_fok (by decide +kernel : decode (jx_mb 58) 1 = .ok (.getfield 55, 3))) rfl rfl rfl
  · exact fun d st M Q l0 l2 l3 x => jx_ev_st (jx_fok (by decide +kernel : decode (jx_mb 58) 4 = .ok (.iload_n 1, 1))) rfl rfl rfl
  · exact fun d lv M Q a0 a1 hk => jx_ev_ci (jx_fok (by decide +kernel : decode (jx_mb 58) 5 = .ok (.invokevirtual 111, 3))) rfl (jx_ccV (As := [.int a0]) (rest := []) rfl rfl rfl hk rfl rfl) (by decide)
  · exact fun d lv st M Q x => jx_k_b1n (jx_fok (by decide +kernel : decode (jx_mb 58) 8 = .ok (.ifCond .ne 5, 3))) rfl jx_hNe
  · exact fun d lv st M Q => jx_ev_st (jx_fok (by decide +kernel : decode (jx_mb 58) 11 = .ok (.iconst (-1), 1))) rfl rfl rfl
  · exact fun d lv M Q x => jx_k_ri (jx_fok (by decide +kernel : decode (jx_mb 58) 12 = .ok (.ireturn, 1))) rfl
  · exact fun d st M Q l0 l1 l3 x => jx_ev_st (jx_fok (by decide +kernel : decode (jx_mb 58) 13 = .ok (.iload_n 2, 1))) rfl rfl rfl
  · exact fun d lv M Q a0 => jx_ev_ci (jx_fok (by decide +kernel : decode (jx_mb 58) 14 = .ok (.invokestatic 130, 3))) rfl (jx_ccS (As := [.int a0]) (rest := []) rfl rfl rfl rfl rfl) (by decide)
  · exact fun d lv st M Q x => jx_k_b1 (jx_fok (by decide +kernel : decode (jx_mb 58) 17 = .ok (.ifCond .eq 13, 3))) rfl jx_hEq
  · exact fun d st M Q l0 l1 l2 x => jx_ev_st (jx_fok (by decide +kernel : decode (jx_mb 58) 20 = .ok (.iload_n 3, 1))) rfl rfl rfl
  · exact fun d lv st M Q x => jx_k_b1 (jx_fok (by decide +kernel : decode (jx_mb 58) 21 = .ok (.ifCond .lt 9, 3))) rfl jx_hLt
  · exact fun d st M Q l0 l1 l2 x => jx_ev_st (jx_fok (by decide +kernel : decode (jx_mb 58) 24 = .ok (.iload_n 3, 1))) rfl rfl rfl
  · exact fun d lv st M Q => jx_ev_st (jx_fok (by decide +kernel : decode (jx_mb 58) 25 = .ok (.bipush 99, 2))) rfl rfl rfl
  · exact fun d lv st M Q x z => jx_k_b2 (jx_fok (by decide +kernel : decode (jx_mb 58) 27 = .ok (.if_icmp .le 6, 3))) rfl jx_hLe
  · exact fun d lv st M Q => jx_ev_st (jx_fok (by decide +kernel : decode (jx_mb 58) 30 = .ok (.bipush (-2), 2))) rfl rfl rfl
  · exact fun d lv M Q x => jx_k_ri (jx_fok (by decide +kernel : decode (jx_mb 58) 32 = .ok (.ireturn, 1))) rfl
  · exact fun d st M Q l1 l2 l3 x => jx_ev_st (jx_fok (by decide +kernel : decode (jx_mb 58) 33 = .ok (.aload_n 0, 1))) rfl rfl rfl
  · exact fun d lv st M Q => jx_k_gf (jx_fok (by decide +kernel : decode (jx_mb 58) 34 = .ok (.getfield 27, 3))) rfl rfl rfl
  · exact fun d st M Q l0 l2 l3 x => jx_ev_st (jx_fok (by decide +kernel : decode (jx_mb 58) 37 = .ok (.iload_n 1, 1))) rfl rfl rfl
  · exact fun d st M Q l0 l1 l3 x => jx_ev_st (jx_fok (by decide +kernel : decode (jx_mb 58) 38 = .ok (.iload_n 2, 1))) rfl rfl rfl
  · exact fun d st M Q l0 l1 l2 x => jx_ev_st (jx_fok (by decide +kernel : decode (jx_mb 58) 39 = .ok (.iload_n 3, 1))) rfl rfl rfl
  · exact fun d lv M Q a0 a1 a2 => jx_ev_ci (jx_fok (by decide +kernel : decode (jx_mb 58) 40 = .ok (.invokevirtual 197, 3))) rfl (jx_ccV (As := [.int a2, .int a1, .int a0]) (rest := []) rfl rfl rfl rfl rfl rfl) (by decide)
  · exact fun d lv M Q x => jx_k_ri (jx_fok (by decide +kernel : decode (jx_mb 58) 43 = .ok (.ireturn, 1))) rfl
theorem kX7_reading (d : Nat) (M : jx_M) (q : Int32 → jx_M → Prop) (a0 a1 a2 a3 : Value) : jx_I d 58 [a0, a1, a2, a3] M q ↔ jx_Ev d 58 0 [some a0, some a1, some a2, some a3] [] M (jx_qI q) := Iff.rfl
set_option maxRecDepth 100000 in
theorem eX7_back :
  (∀ (d : Nat) (st : List Value) (M : jx_M) (Q : jx_Po) (l0 : Option Value) (x : Int32), jx_Ev d 59 0 [l0, some (.int x)] st M Q ↔ jx_Ev d 59 1 [l0, some (.int x)] (.int x :: st) M Q) ∧
  (∀ (d : Nat) (lv : List (Option Value)) (st : List Value) (M : jx_M) (Q : jx_Po) (x : Int32), jx_Ev d 59 1 lv (.int x :: st) M Q ↔ (if x < 0 then jx_Ev d 59 15 lv st M Q else jx_Ev d 59 4 lv st M Q)) ∧
  (∀ (d : Nat) (st : List Value) (M : jx_M) (Q : jx_Po) (l0 : Option Value) (x : Int32), jx_Ev d 59 4 [l0, some (.int x)] st M Q ↔ jx_Ev d 59 5 [l0, some (.int x)] (.int x :: st) M Q) ∧
  (∀ (d : Nat) (st : List Value) (M : jx_M) (Q : jx_Po) (l1 : Option Value) (x : Nat), jx_Ev d 59 5 [some (.ref x), l1] st M Q ↔ jx_Ev d 59 6 [some (.ref x), l1] (.ref x :: st) M Q) ∧
  (∀ (d : Nat) (lv : List (Option Value)) (st : List Value) (M : jx_M) (Q : jx_Po), jx_Ev d 59 6 lv (.ref 0 :: st) M Q ↔ jx_Ev d 59 9 lv (.ref 3 :: st) M Q) ∧
  (∀ (d : Nat) (lv : List (Option Value)) (st : List Value) (M : jx_M) (Q : jx_Po), jx_Ev d 59 9 lv (.ref 3 :: st) M Q ↔ jx_Ev d 59 12 lv (.int (M 3 3) :: st) M Q) ∧
  (∀ (d : Nat) (lv : List (Option Value)) (st : List Value) (M : jx_M) (Q : jx_Po) (x z : Int32), jx_Ev d 59 12 lv (.int z :: .int x :: st) M Q ↔ (if x ≤ z then jx_Ev d 59 18 lv st M Q else jx_Ev d 59 15 lv st M Q)) ∧
  (∀ (d : Nat) (lv : List (Option Value)) (st : List Value) (M : jx_M) (Q : jx_Po), jx_Ev d 59 15 lv st M Q ↔ jx_Ev d 59 17 lv (.int (-2) :: st) M Q) ∧
  (∀ (d : Nat) (lv : List (Option Value)) (M : jx_M) (Q : jx_Po) (x : Int32), jx_Ev d 59 17 lv [.int x] M Q ↔ Q [.int x] M) ∧
  (∀ (d : Nat) (st : List Value) (M : jx_M) (Q : jx_Po) (l1 : Option Value) (x : Nat), jx_Ev d 59 18 [some (.ref x), l1] st M Q ↔ jx_Ev d 59 19 [some (.ref x), l1] (.ref x :: st) M Q) ∧
  (∀ (d : Nat) (lv : List (Option Value)) (st : List Value) (M : jx_M) (Q : jx_Po), jx_Ev d 59 19 lv (.ref 0 :: st) M Q ↔ jx_Ev d 59 22 lv (.ref 3 :: st) M Q) ∧
  (∀ (d : Nat) (lv : List (Option Value)) (st : List Value) (M : jx_M) (Q : jx_Po) (x : Nat), jx_Ev d 59 22 lv (.ref x :: st) M Q ↔ jx_Ev d 59 23 lv (.ref x :: .ref x :: st) M Q) ∧
  (∀ (d : Nat) (lv : List (Option Value)) (st : List Value) (M : jx_M) (Q : jx_Po), jx_Ev d 59 23 lv (.ref 3 :: st) M Q ↔ jx_Ev d 59 26 lv (.int (M 3 3) :: st) M Q) ∧
  (∀ (d : Nat) (st : List Value) (M : jx_M) (Q : jx_Po) (l0 : Option Value) (x : Int32), jx_Ev d 59 26 [l0, some (.int x)] st M Q ↔ jx_Ev d 59 27 [l0, some (.int x)] (.int x :: st) M Q) ∧
  (∀ (d : Nat) (lv : List (Option Value)) (st : List Value) (M : jx_M) (Q : jx_Po) (x z : Int32), jx_Ev d 59 27 lv (.int z :: .int x :: st) M Q ↔ jx_Ev d 59 28 lv (.int (x - z) :: st) M Q) ∧
  (∀ (d : Nat) (lv : List (Option Value)) (st : List Value) (M : jx_M) (Q : jx_Po) (x : Int32), jx_Ev d 59 28 lv (.int x :: .ref 3 :: st) M Q ↔ jx_Ev d 59 31 lv st (jx_up M 3 3 x) Q) ∧
  (∀ (d : Nat) (st : List Value) (M : jx_M) (Q : jx_Po) (l1 : Option Value) (x : Nat), jx_Ev d 59 31 [some (.ref x), l1] st M Q ↔ jx_Ev d 59 32 [some (.ref x), l1] (.ref x :: st) M Q) ∧
  (∀ (d : Nat) (lv : List (Option Value)) (st : List Value) (M : jx_M) (Q : jx_Po), jx_Ev d 59 32 lv (.ref 0 :: st) M Q ↔ jx_Ev d 59 35 lv (.ref 3 :: st) M Q) ∧
  (∀ (d : Nat) (lv : List (Option Value)) (st : List Value) (M : jx_M) (Q : jx_Po), jx_Ev d 59 35 lv (.ref 3 :: st) M Q ↔ jx_Ev d 59 38 lv (.int (M 3 3) :: st) M Q) ∧
  (∀ (d : Nat) (lv : List (Option Value)) (M : jx_M) (Q : jx_Po) (x : Int32), jx_Ev d 59 38 lv [.int x] M Q ↔ Q [.int x] M) := by
  refine ⟨?_, ?_, ?_, ?_, ?_, ?_, ?_, ?_, ?_, ?_, ?_, ?_, ?_, ?_, ?_, ?_, ?_, ?_, ?_, ?_⟩
  · exact fun d st M Q l0 x => jx_ev_st (jx_fok (by decide +kernel : decode (jx_mb 59) 0 = .ok (.iload_n 1, 1))) rfl rfl rfl
  · exact fun d lv st M Q x => jx_k_b1 (jx_fok (by decide +kernel : decode (jx_mb 59) 1 = .ok (.ifCond .lt 14, 3))) rfl jx_hLt
  · exact fun d st M Q l0 x => jx_ev_st (jx_fok (by decide +kernel : decode (jx_mb 59) 4 = .ok (.iload_n 1, 1))) rfl rfl rfl
  · exact fun d st M Q l1 x => jx_ev_st (jx_fok (by decide +kernel : decode (jx_mb 59) 5 = .ok (.aload_n 0, 1))) rfl rfl rfl
  · exact fun d lv st M Q => jx_k_gf (jx_fok (by decide +kernel : decode (jx_mb 59) 6 = .ok (.getfield 27, 3))) rfl rfl rfl
  · exact fun d lv st M Q => jx_k_gf (jx_fok (by decide +kernel : decode (jx_mb 59) 9 = .ok (.getfield 95, 3))) rfl rfl rfl
  · exact fun d lv st M Q x z => jx_k_b2 (jx_fok (by decide +kernel : decode (jx_mb 59) 12 = .ok (.if_icmp .le 6, 3))) rfl jx_hLe
  · exact fun d lv st M Q => jx_ev_st (jx_fok (by decide +kernel : decode (jx_mb 59) 15 = .ok (.bipush (-2), 2))) rfl rfl rfl
  · exact fun d lv M Q x => jx_k_ri (jx_fok (by decide +kernel : decode (jx_mb 59) 17 = .ok (.ireturn, 1))) rfl
  · exact fun d st M Q l1 x => jx_ev_st (jx_fok (by decide +kernel : decode (jx_mb 59) 18 = .ok (.aload_n 0, 1))) rfl rfl rfl
  · exact fun d lv st M Q => jx_k_gf (jx_fok (by decide +kernel : decode (jx_mb 59) 19 = .ok (.getfield 27, 3))) rfl rfl rfl
  · exact fun d lv st M Q x => jx_ev_st (jx_fok (by decide +kernel : decode (jx_mb 59) 22 = .ok (.dup, 1))) rfl rfl rfl
  · exact fun d lv st M Q => jx_k_gf (jx_fok (by decide +kernel : decode (jx_mb 59) 23 = .ok (.getfield 95, 3))) rfl rfl rfl
  · exact fun d st M Q l0 x => jx_ev_st (jx_fok (by decide +kernel : decode (jx_mb 59) 26 = .ok (.iload_n 1, 1))) rfl rfl rfl
  · exact fun d lv st M Q x z => jx_ev_st (jx_fok (by decide +kernel : decode (jx_mb 59) 27 = .ok (.isub, 1))) rfl rfl rfl
  · exact fun d lv st M Q x => jx_k_pf0 (jx_fok (by decide +kernel : decode (jx_mb 59) 28 = .ok (.putfield 95, 3))) rfl rfl rfl
  · exact fun d st M Q l1 x => jx_ev_st (jx_fok (by decide +kernel : decode (jx_mb 59) 31 = .ok (.aload_n 0, 1))) rfl rfl rfl
  · exact fun d lv st M Q => jx_k_gf (jx_fok (by decide +kernel : decode (jx_mb 59) 32 = .ok (.getfield 27, 3))) rfl rfl rfl
  · exact fun d lv st M Q => jx_k_gf (jx_fok (by decide +kernel : decode (jx_mb 59) 35 = .ok (.getfield 95, 3))) rfl rfl rfl
  · exact fun d lv M Q x => jx_k_ri (jx_fok (by decide +kernel : decode (jx_mb 59) 38 = .ok (.ireturn, 1))) rfl
theorem kX7_back (d : Nat) (M : jx_M) (q : Int32 → jx_M → Prop) (a0 a1 : Value) : jx_I d 59 [a0, a1] M q ↔ jx_Ev d 59 0 [some a0, some a1] [] M (jx_qI q) := Iff.rfl
set_option maxRecDepth 100000 in
theorem eX7_sizes :
  (∀ (d : Nat) (st : List Value) (M : jx_M) (Q : jx_Po) (l1 l2 l3 l4 : Option Value) (x : Nat), jx_Ev d 60 0 [some (.ref x), l1, l2, l3, l4] st M Q ↔ jx_Ev d 60 1 [some (.ref x), l1, l2, l3, l4] (.ref x :: st) M Q) ∧
  (∀ (d : Nat) (lv : List (Option Value)) (st : List Value) (M : jx_M) (Q : jx_Po), jx_Ev d 60 1 lv (.ref 0 :: st) M Q ↔ jx_Ev d 60 4 lv (jx_rv (M 0 6) :: st) M Q) ∧
  (∀ (d : Nat) (st : List Value) (M : jx_M) (Q : jx_Po) (l0 l2 l3 l4 : Option Value) (x : Int32), jx_Ev d 60 4 [l0, some (.int x), l2, l3, l4] st M Q ↔ jx_Ev d 60 5 [l0, some (.int x), l2, l3, l4] (.int x :: st) M Q) ∧
  (∀ (d : Nat) (lv : List (Option Value)) (M : jx_M) (Q : jx_Po) (a0 : Int32) (a1 : Nat) (hk : jx_cl a1 = 1), jx_Ev (d + 1) 60 5 lv [.int a0, .ref a1] M Q ↔ jx_I d 6 [.ref a1, .int a0] M (fun x M => jx_Ev (d + 1) 60 8 lv (.int x :: []) M Q)) ∧
  (∀ (d : Nat) (lv : List (Option Value)) (st : List Value) (M : jx_M) (Q : jx_Po) (x : Int32), jx_Ev d 60 8 lv (.int x :: st) M Q ↔ (if x = 0 then jx_Ev d 60 11 lv st M Q else jx_Ev d 60 13 lv st M Q)) ∧
  (∀ (d : Nat) (lv : List (Option Value)) (st : List Value) (M : jx_M) (Q : jx_Po), jx_Ev d 60 11 lv st M Q ↔ jx_Ev d 60 12 lv (.int (-1) :: st) M Q) ∧
  (∀ (d : Nat) (lv : List (Option Value)) (M : jx_M) (Q : jx_Po) (x : Int32), jx_Ev d 60 12 lv [.int x] M Q ↔ Q [.int x] M) ∧
  (∀ (d : Nat) (st : List Value) (M : jx_M) (Q : jx_Po) (l1 l2 l3 l4 : Option Value) (x : Nat), jx_Ev d 60 13 [some (.ref x), l1, l2, l3, l4] st M Q ↔ jx_Ev d 60 14 [some (.ref x), l1, l2, l3, l4] (.ref x :: st) M Q) ∧
  (∀ (d : Nat) (lv : List (Option Value)) (st : List Value) (M : jx_M) (Q : jx_Po), jx_Ev d 60 14 lv (.ref 0 :: st) M Q ↔ jx_Ev d 60 17 lv (jx_rv (M 0 6) :: st) M Q) ∧
  (∀ (d : Nat) (lv : List (Option Value)) (st : List Value) (M : jx_M) (Q : jx_Po) (k : Nat) (hk : jx_cl k = 1), jx_Ev d 60 17 lv (.ref k :: st) M Q ↔ jx_Ev d 60 20 lv (.ref (k + 4) :: st) M Q) ∧
  (∀ (d : Nat) (st : List Value) (M : jx_M) (Q : jx_Po) (l0 l2 l3 l4 : Option Value) (x : Int32), jx_Ev d 60 20 [l0, some (.int x), l2, l3, l4] st M Q ↔ jx_Ev d 60 21 [l0, some (.int x), l2, l3, l4] (.int x :: st) M Q) ∧
  (∀ (d : Nat) (lv : List (Option Value)) (st : List Value) (M : jx_M) (Q : jx_Po) (x : Int32) (a : Nat) (ha : jx_cl a = 9), jx_Ev d 60 21 lv (.int x :: .ref a :: st) M Q ↔ (vp_in x (jx_sz a) ∧ jx_Ev d 60 22 lv (.int (M a x.toNatClampNeg) :: st) M Q)) ∧
  (∀ (d : Nat) (st : List Value) (M : jx_M) (Q : jx_Po) (l0 l1 l2 l3 l4 : Option Value) (x : Int32), jx_Ev d 60 22 [l0, l1, l2, l3, l4] (.int x :: st) M Q ↔ jx_Ev d 60 23 [l0, l1, some (.int x), l3, l4] st M Q) ∧
  (∀ (d : Nat) (lv : List (Option Value)) (st : List Value) (M : jx_M) (Q : jx_Po), jx_Ev d 60 23 lv st M Q ↔ jx_Ev d 60 24 lv (.int 0 :: st) M Q) ∧
  (∀ (d : Nat) (st : List Value) (M : jx_M) (Q : jx_Po) (l0 l1 l2 l3 l4 : Option Value) (x : Int32), jx_Ev d 60 24 [l0, l1, l2, l3, l4] (.int x :: st) M Q ↔ jx_Ev d 60 25 [l0, l1, l2, some (.int x), l4] st M Q) ∧
  (∀ (d : Nat) (lv : List (Option Value)) (st : List Value) (M : jx_M) (Q : jx_Po), jx_Ev d 60 25 lv st M Q ↔ jx_Ev d 60 26 lv (.int 1 :: st) M Q) ∧
  (∀ (d : Nat) (st : List Value) (M : jx_M) (Q : jx_Po) (l0 l1 l2 l3 l4 : Option Value) (x : Int32), jx_Ev d 60 26 [l0, l1, l2, l3, l4] (.int x :: st) M Q ↔ jx_Ev d 60 28 [l0, l1, l2, l3, some (.int x)] st M Q) ∧
  (∀ (d : Nat) (lv : List (Option Value)) (st : List Value) (M : jx_M) (Q : jx_Po), jx_Ev d 60 30 lv st M Q ↔ jx_Ev d 60 32 lv (.int 9 :: st) M Q) ∧
  (∀ (d : Nat) (lv : List (Option Value)) (st : List Value) (M : jx_M) (Q : jx_Po) (x z : Int32), jx_Ev d 60 32 lv (.int z :: .int x :: st) M Q ↔ (if z < x then jx_Ev d 60 68 lv st M Q else jx_Ev d 60 35 lv st M Q)) ∧
  (∀ (d : Nat) (st : List Value) (M : jx_M) (Q : jx_Po) (l1 l2 l3 l4 : Option Value) (x : Nat), jx_Ev d 60 35 [some (.ref x), l1, l2, l3, l4] st M Q ↔ jx_Ev d 60 36 [some (.ref x), l1, l2, l3, l4] (.ref x :: st) M Q) ∧
  (∀ (d : Nat) (lv : List (Option Value)) (st : List Value) (M : jx_M) (Q : jx_Po), jx_Ev d 60 36 lv (.ref 0 :: st) M Q ↔ jx_Ev d 60 39 lv (jx_rv (M 0 6) :: st) M Q) ∧
  (∀ (d : Nat) (lv : List (Option Value)) (st : List Value) (M : jx_M) (Q : jx_Po) (k : Nat) (hk : jx_cl k = 1), jx_Ev d 60 39 lv (.ref k :: st) M Q ↔ jx_Ev d 60 42 lv (.ref (k + 4) :: st) M Q) ∧
  (∀ (d : Nat) (st : List Value) (M : jx_M) (Q : jx_Po) (l0 l2 l3 l4 : Option Value) (x : Int32), jx_Ev d 60 42 [l0, some (.int x), l2, l3, l4] st M Q ↔ jx_Ev d 60 43 [l0, some (.int x), l2, l3, l4] (.int x :: st) M Q) ∧
  (∀ (d : Nat) (st : List Value) (M : jx_M) (Q : jx_Po) (l0 l1 l2 l3 : Option Value) (x : Int32), jx_Ev d 60 43 [l0, l1, l2, l3, some (.int x)] st M Q ↔ jx_Ev d 60 45 [l0, l1, l2, l3, some (.int x)] (.int x :: st) M Q) ∧
  (∀ (d : Nat) (lv : List (Option Value)) (st : List Value) (M : jx_M) (Q : jx_Po) (x z : Int32) (a : Nat) (ha : jx_cl a = 9), jx_Ev d 60 45 lv (.int z :: .int x :: .ref a :: st) M Q ↔ (vp_in x (jx_sz a) ∧ jx_Ev d 60 46 lv st (jx_up M a x.toNatClampNeg z) Q)) ∧
  (∀ (d : Nat) (st : List Value) (M : jx_M) (Q : jx_Po) (l0 l1 l2 l4 : Option Value) (x : Int32), jx_Ev d 60 46 [l0, l1, l2, some (.int x), l4] st M Q ↔ jx_Ev d 60 47 [l0, l1, l2, some (.int x), l4] (.int x :: st) M Q) ∧
  (∀ (d : Nat) (st : List Value) (M : jx_M) (Q : jx_Po) (l1 l2 l3 l4 : Option Value) (x : Nat), jx_Ev d 60 47 [some (.ref x), l1, l2, l3, l4] st M Q ↔ jx_Ev d 60 48 [some (.ref x), l1, l2, l3, l4] (.ref x :: st) M Q) ∧
  (∀ (d : Nat) (lv : List (Option Value)) (st : List Value) (M : jx_M) (Q : jx_Po), jx_Ev d 60 48 lv (.ref 0 :: st) M Q ↔ jx_Ev d 60 51 lv (.ref 3 :: st) M Q) ∧
  (∀ (d : Nat) (st : List Value) (M : jx_M) (Q : jx_Po) (l1 l2 l3 l4 : Option Value) (x : Nat), jx_Ev d 60 51 [some (.ref x), l1, l2, l3, l4] st M Q ↔ jx_Ev d 60 52 [some (.ref x), l1, l2, l3, l4] (.ref x :: st) M Q) ∧
  (∀ (d : Nat) (lv : List (Option Value)) (st : List Value) (M : jx_M) (Q : jx_Po), jx_Ev d 60 52 lv (.ref 0 :: st) M Q ↔ jx_Ev d 60 55 lv (jx_rv (M 0 6) :: st) M Q) ∧
  (∀ (d : Nat) (st : List Value) (M : jx_M) (Q : jx_Po) (l0 l1 l2 l3 : Option Value) (x : Int32), jx_Ev d 60 55 [l0, l1, l2, l3, some (.int x)] st M Q ↔ jx_Ev d 60 57 [l0, l1, l2, l3, some (.int x)] (.int x :: st) M Q) ∧
  (∀ (d : Nat) (lv : List (Option Value)) (M : jx_M) (Q : jx_Po) (a0 : Int32) (a1 : Nat) (a3 : Int32), jx_Ev (d + 1) 60 57 lv [.int a0, .ref a1, .ref 3, .int a3] M Q ↔ jx_I d 19 [.ref 3, .ref a1, .int a0] M (fun x M => jx_Ev (d + 1) 60 60 lv (.int x :: [.int a3]) M Q)) ∧
  (∀ (d : Nat) (lv : List (Option Value)) (st : List Value) (M : jx_M) (Q : jx_Po) (x z : Int32), jx_Ev d 60 60 lv (.int z :: .int x :: st) M Q ↔ jx_Ev d 60 61 lv (.int (x ||| z) :: st) M Q) ∧
  (∀ (d : Nat) (st : List Value) (M : jx_M) (Q : jx_Po) (l0 l1 l2 l3 l4 : Option Value) (x : Int32), jx_Ev d 60 61 [l0, l1, l2, l3, l4] (.int x :: st) M Q ↔ jx_Ev d 60 62 [l0, l1, l2, some (.int x), l4] st M Q) ∧
  (∀ (d : Nat) (st : List Value) (M : jx_M) (Q : jx_Po) (l0 l1 l2 l3 : Option Value) (x : Int32), jx_Ev d 60 62 [l0, l1, l2, l3, some (.int x)] st M Q ↔ jx_Ev d 60 65 [l0, l1, l2, l3, some (.int (x + 1))] st M Q) ∧
  (∀ (d : Nat) (lv : List (Option Value)) (st : List Value) (M : jx_M) (Q : jx_Po), jx_Ev d 60 65 lv st M Q ↔ jx_Ev d 60 28 lv st M Q) ∧
  (∀ (d : Nat) (st : List Value) (M : jx_M) (Q : jx_Po) (l1 l2 l3 l4 : Option Value) (x : Nat), jx_Ev d 60 68 [some (.ref x), l1, l2, l3, l4] st M Q ↔ jx_Ev d 60 69 [some (.ref x), l1, l2, l3, l4] (.ref x :: st) M Q) ∧
  (∀ (d : Nat) (lv : List (Option Value)) (st : List Value) (M : jx_M) (Q : jx_Po), jx_Ev d 60 69 lv (.ref 0 :: st) M Q ↔ jx_Ev d 60 72 lv (jx_rv (M 0 6) :: st) M Q) ∧
  (∀ (d : Nat) (lv : List (Option Value)) (st : List Value) (M : jx_M) (Q : jx_Po) (k : Nat) (hk : jx_cl k = 1), jx_Ev d 60 72 lv (.ref k :: st) M Q ↔ jx_Ev d 60 75 lv (.ref (k + 4) :: st) M Q) ∧
  (∀ (d : Nat) (st : List Value) (M : jx_M) (Q : jx_Po) (l0 l2 l3 l4 : Option Value) (x : Int32), jx_Ev d 60 75 [l0, some (.int x), l2, l3, l4] st M Q ↔ jx_Ev d 60 76 [l0, some (.int x), l2, l3, l4] (.int x :: st) M Q) ∧
  (∀ (d : Nat) (st : List Value) (M : jx_M) (Q : jx_Po) (l0 l1 l3 l4 : Option Value) (x : Int32), jx_Ev d 60 76 [l0, l1, some (.int x), l3, l4] st M Q ↔ jx_Ev d 60 77 [l0, l1, some (.int x), l3, l4] (.int x :: st) M Q) ∧
  (∀ (d : Nat) (lv : List (Option Value)) (st : List Value) (M : jx_M) (Q : jx_Po) (x z : Int32) (a : Nat) (ha : jx_cl a = 9), jx_Ev d 60 77 lv (.int z :: .int x :: .ref a :: st) M Q ↔ (vp_in x (jx_sz a) ∧ jx_Ev d 60 78 lv st (jx_up M a x.toNatClampNeg z) Q)) ∧
  (∀ (d : Nat) (st : List Value) (M : jx_M) (Q : jx_Po) (l0 l1 l2 l4 : Option Value) (x : Int32), jx_Ev d 60 78 [l0, l1, l2, some (.int x), l4] st M Q ↔ jx_Ev d 60 79 [l0, l1, l2, some (.int x), l4] (.int x :: st) M Q) ∧
  (∀ (d : Nat) (lv : List (Option Value)) (M : jx_M) (Q : jx_Po) (x : Int32), jx_Ev d 60 79 lv [.int x] M Q ↔ Q [.int x] M) := by
  refine ⟨?_, ?_, ?_, ?_, ?_, ?_, ?_, ?_, ?_, ?_, ?_, ?_, ?_, ?_, ?_, ?_, ?_, ?_, ?_, ?_, ?_, ?_, ?_, ?_, ?_, ?_, ?_, ?_, ?_, ?_, ?_, ?_, ?_, ?_, ?_, ?_, ?_, ?_, ?_, ?_, ?_, ?_, ?_, ?_⟩
  · exact fun d st M Q l1 l2 l3 l4 x => jx_ev_st (jx_fok (by decide +kernel : decode (jx_mb 60) 0 = .ok (.aload_n 0, 1))) rfl rfl rfl
  · exact fun d lv st M Q => jx_k_gf (jx_fok (by decide +kernel : decode (jx_mb 60) 1 = .ok (.getfield 55, 3))) rfl rfl rfl
  · exact fun d st M Q l0 l2 l3 l4 x => jx_ev_st (jx_fok (by decide +kernel : decode (jx_mb 60) 4 = .ok (.iload_n 1, 1))) rfl rfl rfl
  · exact fun d lv M Q a0 a1 hk => jx_ev_ci (jx_fok (by decide +kernel : decode (jx_mb 60) 5 = .ok (.invokevirtual 111, 3))) rfl (jx_ccV (As := [.int a0]) (rest := []) rfl rfl rfl hk rfl rfl) (by decide)
  · exact fun d lv st M Q x => jx_k_b1n (jx_fok (by decide +kernel : decode (jx_mb 60) 8 = .ok (.ifCond .ne 5, 3))) rfl jx_hNe
  · exact fun d lv st M Q => jx_ev_st (jx_fok (by decide +kernel : decode (jx_mb 60) 11 = .ok (.iconst (-1), 1))) rfl rfl rfl
  · exact fun d lv M Q x => jx_k_ri (jx_fok (by decide +kernel : decode (jx_mb 60) 12 = .ok (.ireturn, 1))) rfl
  · exact fun d st M Q l1 l2 l3 l4 x => jx_ev_st (jx_fok (by decide +kernel : decode (jx_mb 60) 13 = .ok (.aload_n 0, 1))) rfl rfl rfl
  · exact fun d lv st M Q => jx_k_gf (jx_fok (by decide +kernel : decode (jx_mb 60) 14 = .ok (.getfield 55, 3))) rfl rfl rfl
  · exact fun d lv st M Q k hk => jx_k_gf (jx_fok (by decide +kernel : decode (jx_mb 60) 17 = .ok (.getfield 117, 3))) rfl hk rfl
  · exact fun d st M Q l0 l2 l3 l4 x => jx_ev_st (jx_fok (by decide +kernel : decode (jx_mb 60) 20 = .ok (.iload_n 1, 1))) rfl rfl rfl
  · exact fun d lv st M Q x a ha => jx_k_al (jx_fok (by decide +kernel : decode (jx_mb 60) 21 = .ok (.iaload, 1))) ha
  · exact fun d st M Q l0 l1 l2 l3 l4 x => jx_ev_st (jx_fok (by decide +kernel : decode (jx_mb 60) 22 = .ok (.istore_n 2, 1))) rfl rfl rfl
  · exact fun d lv st M Q => jx_ev_st (jx_fok (by decide +kernel : decode (jx_mb 60) 23 = .ok (.iconst 0, 1))) rfl rfl rfl
  · exact fun d st M Q l0 l1 l2 l3 l4 x => jx_ev_st (jx_fok (by decide +kernel : decode (jx_mb 60) 24 = .ok (.istore_n 3, 1))) rfl rfl rfl
  · exact fun d lv st M Q => jx_ev_st (jx_fok (by decide +kernel : decode (jx_mb 60) 25 = .ok (.iconst 1, 1))) rfl rfl rfl
  · exact fun d st M Q l0 l1 l2 l3 l4 x => jx_ev_st (jx_fok (by decide +kernel : decode (jx_mb 60) 26 = .ok (.istore 4, 2))) rfl rfl rfl
  · exact fun d lv st M Q => jx_ev_st (jx_fok (by decide +kernel : decode (jx_mb 60) 30 = .ok (.bipush 9, 2))) rfl rfl rfl
  · exact fun d lv st M Q x z => jx_k_b2 (jx_fok (by decide +kernel : decode (jx_mb 60) 32 = .ok (.if_icmp .gt 36, 3))) rfl jx_hGt
  · exact fun d st M Q l1 l2 l3 l4 x => jx_ev_st (jx_fok (by decide +kernel : decode (jx_mb 60) 35 = .ok (.aload_n 0, 1))) rfl rfl rfl
  · exact fun d lv st M Q => jx_k_gf (jx_fok (by decide +kernel : decode (jx_mb 60) 36 = .ok (.getfield 55, 3))) rfl rfl rfl
  · exact fun d lv st M Q k hk => jx_k_gf (jx_fok (by decide +kernel : decode (jx_mb 60) 39 = .ok (.getfield 117, 3))) rfl hk rfl
  · exact fun d st M Q l0 l2 l3 l4 x => jx_ev_st (jx_fok (by decide +kernel : decode (jx_mb 60) 42 = .ok (.iload_n 1, 1))) rfl rfl rfl
  · exact fun d st M Q l0 l1 l2 l3 x => jx_ev_st (jx_fok (by decide +kernel : decode (jx_mb 60) 43 = .ok (.iload 4, 2))) rfl rfl rfl
  · exact fun d lv st M Q x z a ha => jx_k_as (jx_fok (by decide +kernel : decode (jx_mb 60) 45 = .ok (.iastore, 1))) ha
  · exact fun d st M Q l0 l1 l2 l4 x => jx_ev_st (jx_fok (by decide +kernel : decode (jx_mb 60) 46 = .ok (.iload_n 3, 1))) rfl rfl rfl
  · exact fun d st M Q l1 l2 l3 l4 x => jx_ev_st (jx_fok (by decide +kernel : decode (jx_mb 60) 47 = .ok (.aload_n 0, 1))) rfl rfl rfl
  · exact fun d lv st M Q => jx_k_gf (jx_fok (by decide +kernel : decode (jx_mb 60) 48 = .ok (.getfield 27, 3))) rfl rfl rfl
  · exact fun d st M Q l1 l2 l3 l4 x => jx_ev_st (jx_fok (by decide +kernel : decode (jx_mb 60) 51 = .ok (.aload_n 0, 1))) rfl rfl rfl
  · exact fun d lv st M Q => jx_k_gf (jx_fok (by decide +kernel : decode (jx_mb 60) 52 = .ok (.getfield 55, 3))) rfl rfl rfl
  · exact fun d st M Q l0 l1 l2 l3 x => jx_ev_st (jx_fok (by decide +kernel : decode (jx_mb 60) 55 = .ok (.iload 4, 2))) rfl rfl rfl
  · exact fun d lv M Q a0 a1 a3 => jx_ev_ci (jx_fok (by decide +kernel : decode (jx_mb 60) 57 = .ok (.invokevirtual 200, 3))) rfl (jx_ccV (As := [.ref a1, .int a0]) (rest := [.int a3]) rfl rfl rfl rfl rfl rfl) (by decide)
  · exact fun d lv st M Q x z => jx_ev_st (jx_fok (by decide +kernel : decode (jx_mb 60) 60 = .ok (.ior, 1))) rfl rfl rfl
  · exact fun d st M Q l0 l1 l2 l3 l4 x => jx_ev_st (jx_fok (by decide +kernel : decode (jx_mb 60) 61 = .ok (.istore_n 3, 1))) rfl rfl rfl
  · exact fun d st M Q l0 l1 l2 l3 x => jx_ev_st (jx_fok (by decide +kernel : decode (jx_mb 60) 62 = .ok (.iinc 4 1, 3))) rfl rfl rfl
  · exact fun d lv st M Q => jx_k_goto (jx_fok (by decide +kernel : decode (jx_mb 60) 65 = .ok (.goto (-37), 3))) rfl
  · exact fun d st M Q l1 l2 l3 l4 x => jx_ev_st (jx_fok (by decide +kernel : decode (jx_mb 60) 68 = .ok (.aload_n 0, 1))) rfl rfl rfl
  · exact fun d lv st M Q => jx_k_gf (jx_fok (by decide +kernel : decode (jx_mb 60) 69 = .ok (.getfield 55, 3))) rfl rfl rfl
  · exact fun d lv st M Q k hk => jx_k_gf (jx_fok (by decide +kernel : decode (jx_mb 60) 72 = .ok (.getfield 117, 3))) rfl hk rfl
  · exact fun d st M Q l0 l2 l3 l4 x => jx_ev_st (jx_fok (by decide +kernel : decode (jx_mb 60) 75 = .ok (.iload_n 1, 1))) rfl rfl rfl
  · exact fun d st M Q l0 l1 l3 l4 x => jx_ev_st (jx_fok (by decide +kernel : decode (jx_mb 60) 76 = .ok (.iload_n 2, 1))) rfl rfl rfl
  · exact fun d lv st M Q x z a ha => jx_k_as (jx_fok (by decide +kernel : decode (jx_mb 60) 77 = .ok (.iastore, 1))) ha
  · exact fun d st M Q l0 l1 l2 l4 x => jx_ev_st (jx_fok (by decide +kernel : decode (jx_mb 60) 78 = .ok (.iload_n 3, 1))) rfl rfl rfl
  · exact fun d lv M Q x => jx_k_ri (jx_fok (by decide +kernel : decode (jx_mb 60) 79 = .ok (.ireturn, 1))) rfl
theorem eX7_sizes_28 (d : Nat) (st : List Value) (M : jx_M) (Q : jx_Po) (l0 l1 l2 l3 : Option Value) (x : Int32) : jx_Ev d 60 28 [l0, l1, l2, l3, some (.int x)] st M Q ↔ jx_Ev d 60 30 [l0, l1, l2, l3, some (.int x)] (.int x :: st) M Q := jx_ev_st (jx_fok (by decide +kernel : decode (jx_mb 60) 28 = .ok (.iload 4, 2))) rfl rfl rfl
theorem kX7_sizes (d : Nat) (M : jx_M) (q : Int32 → jx_M → Prop) (a0 a1 : Value) : jx_I d 60 [a0, a1] M q ↔ jx_Ev d 60 0 [some a0, some a1, none, none, none] [] M (jx_qI q) := Iff.rfl
set_option maxRecDepth 100000 in
theorem eX7_kinds :
  (∀ (d : Nat) (st : List Value) (M : jx_M) (Q : jx_Po) (l1 l2 l3 l4 : Option Value) (x : Nat), jx_Ev d 61 0 [some (.ref x), l1, l2, l3, l4] st M Q ↔ jx_Ev d 61 1 [some (.ref x), l1, l2, l3, l4] (.ref x :: st) M Q) ∧
  (∀ (d : Nat) (lv : List (Option Value)) (st : List Value) (M : jx_M) (Q : jx_Po), jx_Ev d 61 1 lv (.ref 0 :: st) M Q ↔ jx_Ev d 61 4 lv (jx_rv (M 0 6) :: st) M Q) ∧
  (∀ (d : Nat) (st : List Value) (M : jx_M) (Q : jx_Po) (l0 l2 l3 l4 : Option Value) (x : Int32), jx_Ev d 61 4 [l0, some (.int x), l2, l3, l4] st M Q ↔ jx_Ev d 61 5 [l0, some (.int x), l2, l3, l4] (.int x :: st) M Q) ∧
  (∀ (d : Nat) (lv : List (Option Value)) (M : jx_M) (Q : jx_Po) (a0 : Int32) (a1 : Nat) (hk : jx_cl a1 = 1), jx_Ev (d + 1) 61 5 lv [.int a0, .ref a1] M Q ↔ jx_I d 6 [.ref a1, .int a0] M (fun x M => jx_Ev (d + 1) 61 8 lv (.int x :: []) M Q)) ∧
  (∀ (d : Nat) (lv : List (Option Value)) (st : List Value) (M : jx_M) (Q : jx_Po) (x : Int32), jx_Ev d 61 8 lv (.int x :: st) M Q ↔ (if x = 0 then jx_Ev d 61 11 lv st M Q else jx_Ev d 61 13 lv st M Q)) ∧
  (∀ (d : Nat) (lv : List (Option Value)) (st : List Value) (M : jx_M) (Q : jx_Po), jx_Ev d 61 11 lv st M Q ↔ jx_Ev d 61 12 lv (.int (-1) :: st) M Q) ∧
  (∀ (d : Nat) (lv : List (Option Value)) (M : jx_M) (Q : jx_Po) (x : Int32), jx_Ev d 61 12 lv [.int x] M Q ↔ Q [.int x] M) ∧
  (∀ (d : Nat) (st : List Value) (M : jx_M) (Q : jx_Po) (l1 l2 l3 l4 : Option Value) (x : Nat), jx_Ev d 61 13 [some (.ref x), l1, l2, l3, l4] st M Q ↔ jx_Ev d 61 14 [some (.ref x), l1, l2, l3, l4] (.ref x :: st) M Q) ∧
  (∀ (d : Nat) (lv : List (Option Value)) (st : List Value) (M : jx_M) (Q : jx_Po), jx_Ev d 61 14 lv (.ref 0 :: st) M Q ↔ jx_Ev d 61 17 lv (jx_rv (M 0 6) :: st) M Q) ∧
  (∀ (d : Nat) (lv : List (Option Value)) (st : List Value) (M : jx_M) (Q : jx_Po) (k : Nat) (hk : jx_cl k = 1), jx_Ev d 61 17 lv (.ref k :: st) M Q ↔ jx_Ev d 61 20 lv (.ref (k + 3) :: st) M Q) ∧
  (∀ (d : Nat) (st : List Value) (M : jx_M) (Q : jx_Po) (l0 l2 l3 l4 : Option Value) (x : Int32), jx_Ev d 61 20 [l0, some (.int x), l2, l3, l4] st M Q ↔ jx_Ev d 61 21 [l0, some (.int x), l2, l3, l4] (.int x :: st) M Q) ∧
  (∀ (d : Nat) (lv : List (Option Value)) (st : List Value) (M : jx_M) (Q : jx_Po) (x : Int32) (a : Nat) (ha : jx_cl a = 9), jx_Ev d 61 21 lv (.int x :: .ref a :: st) M Q ↔ (vp_in x (jx_sz a) ∧ jx_Ev d 61 22 lv (.int (M a x.toNatClampNeg) :: st) M Q)) ∧
  (∀ (d : Nat) (st : List Value) (M : jx_M) (Q : jx_Po) (l0 l1 l2 l3 l4 : Option Value) (x : Int32), jx_Ev d 61 22 [l0, l1, l2, l3, l4] (.int x :: st) M Q ↔ jx_Ev d 61 23 [l0, l1, some (.int x), l3, l4] st M Q) ∧
  (∀ (d : Nat) (lv : List (Option Value)) (st : List Value) (M : jx_M) (Q : jx_Po), jx_Ev d 61 23 lv st M Q ↔ jx_Ev d 61 24 lv (.int 0 :: st) M Q) ∧
  (∀ (d : Nat) (st : List Value) (M : jx_M) (Q : jx_Po) (l0 l1 l2 l3 l4 : Option Value) (x : Int32), jx_Ev d 61 24 [l0, l1, l2, l3, l4] (.int x :: st) M Q ↔ jx_Ev d 61 25 [l0, l1, l2, some (.int x), l4] st M Q) ∧
  (∀ (d : Nat) (lv : List (Option Value)) (st : List Value) (M : jx_M) (Q : jx_Po), jx_Ev d 61 25 lv st M Q ↔ jx_Ev d 61 26 lv (.int 0 :: st) M Q) ∧
  (∀ (d : Nat) (st : List Value) (M : jx_M) (Q : jx_Po) (l0 l1 l2 l3 l4 : Option Value) (x : Int32), jx_Ev d 61 26 [l0, l1, l2, l3, l4] (.int x :: st) M Q ↔ jx_Ev d 61 28 [l0, l1, l2, l3, some (.int x)] st M Q) ∧
  (∀ (d : Nat) (lv : List (Option Value)) (st : List Value) (M : jx_M) (Q : jx_Po), jx_Ev d 61 30 lv st M Q ↔ jx_Ev d 61 31 lv (.int 2 :: st) M Q) ∧
  (∀ (d : Nat) (lv : List (Option Value)) (st : List Value) (M : jx_M) (Q : jx_Po) (x z : Int32), jx_Ev d 61 31 lv (.int z :: .int x :: st) M Q ↔ (if z < x then jx_Ev d 61 67 lv st M Q else jx_Ev d 61 34 lv st M Q)) ∧
  (∀ (d : Nat) (st : List Value) (M : jx_M) (Q : jx_Po) (l1 l2 l3 l4 : Option Value) (x : Nat), jx_Ev d 61 34 [some (.ref x), l1, l2, l3, l4] st M Q ↔ jx_Ev d 61 35 [some (.ref x), l1, l2, l3, l4] (.ref x :: st) M Q) ∧
  (∀ (d : Nat) (lv : List (Option Value)) (st : List Value) (M : jx_M) (Q : jx_Po), jx_Ev d 61 35 lv (.ref 0 :: st) M Q ↔ jx_Ev d 61 38 lv (jx_rv (M 0 6) :: st) M Q) ∧
  (∀ (d : Nat) (lv : List (Option Value)) (st : List Value) (M : jx_M) (Q : jx_Po) (k : Nat) (hk : jx_cl k = 1), jx_Ev d 61 38 lv (.ref k :: st) M Q ↔ jx_Ev d 61 41 lv (.ref (k + 3) :: st) M Q) ∧
  (∀ (d : Nat) (st : List Value) (M : jx_M) (Q : jx_Po) (l0 l2 l3 l4 : Option Value) (x : Int32), jx_Ev d 61 41 [l0, some (.int x), l2, l3, l4] st M Q ↔ jx_Ev d 61 42 [l0, some (.int x), l2, l3, l4] (.int x :: st) M Q) ∧
  (∀ (d : Nat) (st : List Value) (M : jx_M) (Q : jx_Po) (l0 l1 l2 l3 : Option Value) (x : Int32), jx_Ev d 61 42 [l0, l1, l2, l3, some (.int x)] st M Q ↔ jx_Ev d 61 44 [l0, l1, l2, l3, some (.int x)] (.int x :: st) M Q) ∧
  (∀ (d : Nat) (lv : List (Option Value)) (st : List Value) (M : jx_M) (Q : jx_Po) (x z : Int32) (a : Nat) (ha : jx_cl a = 9), jx_Ev d 61 44 lv (.int z :: .int x :: .ref a :: st) M Q ↔ (vp_in x (jx_sz a) ∧ jx_Ev d 61 45 lv st (jx_up M a x.toNatClampNeg z) Q)) ∧
  (∀ (d : Nat) (st : List Value) (M : jx_M) (Q : jx_Po) (l0 l1 l2 l4 : Option Value) (x : Int32), jx_Ev d 61 45 [l0, l1, l2, some (.int x), l4] st M Q ↔ jx_Ev d 61 46 [l0, l1, l2, some (.int x), l4] (.int x :: st) M Q) ∧
  (∀ (d : Nat) (st : List Value) (M : jx_M) (Q : jx_Po) (l1 l2 l3 l4 : Option Value) (x : Nat), jx_Ev d 61 46 [some (.ref x), l1, l2, l3, l4] st M Q ↔ jx_Ev d 61 47 [some (.ref x), l1, l2, l3, l4] (.ref x :: st) M Q) ∧
  (∀ (d : Nat) (lv : List (Option Value)) (st : List Value) (M : jx_M) (Q : jx_Po), jx_Ev d 61 47 lv (.ref 0 :: st) M Q ↔ jx_Ev d 61 50 lv (.ref 3 :: st) M Q) ∧
  (∀ (d : Nat) (st : List Value) (M : jx_M) (Q : jx_Po) (l1 l2 l3 l4 : Option Value) (x : Nat), jx_Ev d 61 50 [some (.ref x), l1, l2, l3, l4] st M Q ↔ jx_Ev d 61 51 [some (.ref x), l1, l2, l3, l4] (.ref x :: st) M Q) ∧
  (∀ (d : Nat) (lv : List (Option Value)) (st : List Value) (M : jx_M) (Q : jx_Po), jx_Ev d 61 51 lv (.ref 0 :: st) M Q ↔ jx_Ev d 61 54 lv (jx_rv (M 0 6) :: st) M Q) ∧
  (∀ (d : Nat) (st : List Value) (M : jx_M) (Q : jx_Po) (l0 l1 l2 l3 : Option Value) (x : Int32), jx_Ev d 61 54 [l0, l1, l2, l3, some (.int x)] st M Q ↔ jx_Ev d 61 56 [l0, l1, l2, l3, some (.int x)] (.int x :: st) M Q) ∧
  (∀ (d : Nat) (lv : List (Option Value)) (M : jx_M) (Q : jx_Po) (a0 : Int32) (a1 : Nat) (a3 : Int32), jx_Ev (d + 1) 61 56 lv [.int a0, .ref a1, .ref 3, .int a3] M Q ↔ jx_I d 19 [.ref 3, .ref a1, .int a0] M (fun x M => jx_Ev (d + 1) 61 59 lv (.int x :: [.int a3]) M Q)) ∧
  (∀ (d : Nat) (lv : List (Option Value)) (st : List Value) (M : jx_M) (Q : jx_Po) (x z : Int32), jx_Ev d 61 59 lv (.int z :: .int x :: st) M Q ↔ jx_Ev d 61 60 lv (.int (x ||| z) :: st) M Q) ∧
  (∀ (d : Nat) (st : List Value) (M : jx_M) (Q : jx_Po) (l0 l1 l2 l3 l4 : Option Value) (x : Int32), jx_Ev d 61 60 [l0, l1, l2, l3, l4] (.int x :: st) M Q ↔ jx_Ev d 61 61 [l0, l1, l2, some (.int x), l4] st M Q) ∧
  (∀ (d : Nat) (st : List Value) (M : jx_M) (Q : jx_Po) (l0 l1 l2 l3 : Option Value) (x : Int32), jx_Ev d 61 61 [l0, l1, l2, l3, some (.int x)] st M Q ↔ jx_Ev d 61 64 [l0, l1, l2, l3, some (.int (x + 1))] st M Q) ∧
  (∀ (d : Nat) (lv : List (Option Value)) (st : List Value) (M : jx_M) (Q : jx_Po), jx_Ev d 61 64 lv st M Q ↔ jx_Ev d 61 28 lv st M Q) ∧
  (∀ (d : Nat) (st : List Value) (M : jx_M) (Q : jx_Po) (l1 l2 l3 l4 : Option Value) (x : Nat), jx_Ev d 61 67 [some (.ref x), l1, l2, l3, l4] st M Q ↔ jx_Ev d 61 68 [some (.ref x), l1, l2, l3, l4] (.ref x :: st) M Q) ∧
  (∀ (d : Nat) (lv : List (Option Value)) (st : List Value) (M : jx_M) (Q : jx_Po), jx_Ev d 61 68 lv (.ref 0 :: st) M Q ↔ jx_Ev d 61 71 lv (jx_rv (M 0 6) :: st) M Q) ∧
  (∀ (d : Nat) (lv : List (Option Value)) (st : List Value) (M : jx_M) (Q : jx_Po) (k : Nat) (hk : jx_cl k = 1), jx_Ev d 61 71 lv (.ref k :: st) M Q ↔ jx_Ev d 61 74 lv (.ref (k + 3) :: st) M Q) ∧
  (∀ (d : Nat) (st : List Value) (M : jx_M) (Q : jx_Po) (l0 l2 l3 l4 : Option Value) (x : Int32), jx_Ev d 61 74 [l0, some (.int x), l2, l3, l4] st M Q ↔ jx_Ev d 61 75 [l0, some (.int x), l2, l3, l4] (.int x :: st) M Q) ∧
  (∀ (d : Nat) (st : List Value) (M : jx_M) (Q : jx_Po) (l0 l1 l3 l4 : Option Value) (x : Int32), jx_Ev d 61 75 [l0, l1, some (.int x), l3, l4] st M Q ↔ jx_Ev d 61 76 [l0, l1, some (.int x), l3, l4] (.int x :: st) M Q) ∧
  (∀ (d : Nat) (lv : List (Option Value)) (st : List Value) (M : jx_M) (Q : jx_Po) (x z : Int32) (a : Nat) (ha : jx_cl a = 9), jx_Ev d 61 76 lv (.int z :: .int x :: .ref a :: st) M Q ↔ (vp_in x (jx_sz a) ∧ jx_Ev d 61 77 lv st (jx_up M a x.toNatClampNeg z) Q)) ∧
  (∀ (d : Nat) (st : List Value) (M : jx_M) (Q : jx_Po) (l0 l1 l2 l4 : Option Value) (x : Int32), jx_Ev d 61 77 [l0, l1, l2, some (.int x), l4] st M Q ↔ jx_Ev d 61 78 [l0, l1, l2, some (.int x), l4] (.int x :: st) M Q) ∧
  (∀ (d : Nat) (lv : List (Option Value)) (M : jx_M) (Q : jx_Po) (x : Int32), jx_Ev d 61 78 lv [.int x] M Q ↔ Q [.int x] M) := by
  refine ⟨?_, ?_, ?_, ?_, ?_, ?_, ?_, ?_, ?_, ?_, ?_, ?_, ?_, ?_, ?_, ?_, ?_, ?_, ?_, ?_, ?_, ?_, ?_, ?_, ?_, ?_, ?_, ?_, ?_, ?_, ?_, ?_, ?_, ?_, ?_, ?_, ?_, ?_, ?_, ?_, ?_, ?_, ?_, ?_⟩
  · exact fun d st M Q l1 l2 l3 l4 x => jx_ev_st (jx_fok (by decide +kernel : decode (jx_mb 61) 0 = .ok (.aload_n 0, 1))) rfl rfl rfl
  · exact fun d lv st M Q => jx_k_gf (jx_fok (by decide +kernel : decode (jx_mb 61) 1 = .ok (.getfield 55, 3))) rfl rfl rfl
  · exact fun d st M Q l0 l2 l3 l4 x => jx_ev_st (jx_fok (by decide +kernel : decode (jx_mb 61) 4 = .ok (.iload_n 1, 1))) rfl rfl rfl
  · exact fun d lv M Q a0 a1 hk => jx_ev_ci (jx_fok (by decide +kernel : decode (jx_mb 61) 5 = .ok (.invokevirtual 111, 3))) rfl (jx_ccV (As := [.int a0]) (rest := []) rfl rfl rfl hk rfl rfl) (by decide)
  · exact fun d lv st M Q x => jx_k_b1n (jx_fok (by decide +kernel : decode (jx_mb 61) 8 = .ok (.ifCond .ne 5, 3))) rfl jx_hNe
  · exact fun d lv st M Q => jx_ev_st (jx_fok (by decide +kernel : decode (jx_mb 61) 11 = .ok (.iconst (-1), 1))) rfl rfl rfl
  · exact fun d lv M Q x => jx_k_ri (jx_fok (by decide +kernel : decode (jx_mb 61) 12 = .ok (.ireturn, 1))) rfl
  · exact fun d st M Q l1 l2 l3 l4 x => jx_ev_st (jx_fok (by decide +kernel : decode (jx_mb 61) 13 = .ok (.aload_n 0, 1))) rfl rfl rfl
  · exact fun d lv st M Q => jx_k_gf (jx_fok (by decide +kernel : decode (jx_mb 61) 14 = .ok (.getfield 55, 3))) rfl rfl rfl
  · exact fun d lv st M Q k hk => jx_k_gf (jx_fok (by decide +kernel : decode (jx_mb 61) 17 = .ok (.getfield 114, 3))) rfl hk rfl
  · exact fun d st M Q l0 l2 l3 l4 x => jx_ev_st (jx_fok (by decide +kernel : decode (jx_mb 61) 20 = .ok (.iload_n 1, 1))) rfl rfl rfl
  · exact fun d lv st M Q x a ha => jx_k_al (jx_fok (by decide +kernel : decode (jx_mb 61) 21 = .ok (.iaload, 1))) ha
  · exact fun d st M Q l0 l1 l2 l3 l4 x => jx_ev_st (jx_fok (by decide +kernel : decode (jx_mb 61) 22 = .ok (.istore_n 2, 1))) rfl rfl rfl
  · exact fun d lv st M Q => jx_ev_st (jx_fok (by decide +kernel : decode (jx_mb 61) 23 = .ok (.iconst 0, 1))) rfl rfl rfl
  · exact fun d st M Q l0 l1 l2 l3 l4 x => jx_ev_st (jx_fok (by decide +kernel : decode (jx_mb 61) 24 = .ok (.istore_n 3, 1))) rfl rfl rfl
  · exact fun d lv st M Q => jx_ev_st (jx_fok (by decide +kernel : decode (jx_mb 61) 25 = .ok (.iconst 0, 1))) rfl rfl rfl
  · exact fun d st M Q l0 l1 l2 l3 l4 x => jx_ev_st (jx_fok (by decide +kernel : decode (jx_mb 61) 26 = .ok (.istore 4, 2))) rfl rfl rfl
  · exact fun d lv st M Q => jx_ev_st (jx_fok (by decide +kernel : decode (jx_mb 61) 30 = .ok (.iconst 2, 1))) rfl rfl rfl
  · exact fun d lv st M Q x z => jx_k_b2 (jx_fok (by decide +kernel : decode (jx_mb 61) 31 = .ok (.if_icmp .gt 36, 3))) rfl jx_hGt
  · exact fun d st M Q l1 l2 l3 l4 x => jx_ev_st (jx_fok (by decide +kernel : decode (jx_mb 61) 34 = .ok (.aload_n 0, 1))) rfl rfl rfl
  · exact fun d lv st M Q => jx_k_gf (jx_fok (by decide +kernel : decode (jx_mb 61) 35 = .ok (.getfield 55, 3))) rfl rfl rfl
  · exact fun d lv st M Q k hk => jx_k_gf (jx_fok (by decide +kernel : decode (jx_mb 61) 38 = .ok (.getfield 114, 3))) rfl hk rfl
  · exact fun d st M Q l0 l2 l3 l4 x => jx_ev_st (jx_fok (by decide +kernel : decode (jx_mb 61) 41 = .ok (.iload_n 1, 1))) rfl rfl rfl
  · exact fun d st M Q l0 l1 l2 l3 x => jx_ev_st (jx_fok (by decide +kernel : decode (jx_mb 61) 42 = .ok (.iload 4, 2))) rfl rfl rfl
  · exact fun d lv st M Q x z a ha => jx_k_as (jx_fok (by decide +kernel : decode (jx_mb 61) 44 = .ok (.iastore, 1))) ha
  · exact fun d st M Q l0 l1 l2 l4 x => jx_ev_st (jx_fok (by decide +kernel : decode (jx_mb 61) 45 = .ok (.iload_n 3, 1))) rfl rfl rfl
  · exact fun d st M Q l1 l2 l3 l4 x => jx_ev_st (jx_fok (by decide +kernel : decode (jx_mb 61) 46 = .ok (.aload_n 0, 1))) rfl rfl rfl
  · exact fun d lv st M Q => jx_k_gf (jx_fok (by decide +kernel : decode (jx_mb 61) 47 = .ok (.getfield 27, 3))) rfl rfl rfl
  · exact fun d st M Q l1 l2 l3 l4 x => jx_ev_st (jx_fok (by decide +kernel : decode (jx_mb 61) 50 = .ok (.aload_n 0, 1))) rfl rfl rfl
  · exact fun d lv st M Q => jx_k_gf (jx_fok (by decide +kernel : decode (jx_mb 61) 51 = .ok (.getfield 55, 3))) rfl rfl rfl
  · exact fun d st M Q l0 l1 l2 l3 x => jx_ev_st (jx_fok (by decide +kernel : decode (jx_mb 61) 54 = .ok (.iload 4, 2))) rfl rfl rfl
  · exact fun d lv M Q a0 a1 a3 => jx_ev_ci (jx_fok (by decide +kernel : decode (jx_mb 61) 56 = .ok (.invokevirtual 200, 3))) rfl (jx_ccV (As := [.ref a1, .int a0]) (rest := [.int a3]) rfl rfl rfl rfl rfl rfl) (by decide)
  · exact fun d lv st M Q x z => jx_ev_st (jx_fok (by decide +kernel : decode (jx_mb 61) 59 = .ok (.ior, 1))) rfl rfl rfl
  · exact fun d st M Q l0 l1 l2 l3 l4 x => jx_ev_st (jx_fok (by decide +kernel : decode (jx_mb 61) 60 = .ok (.istore_n 3, 1))) rfl rfl rfl
  · exact fun d st M Q l0 l1 l2 l3 x => jx_ev_st (jx_fok (by decide +kernel : decode (jx_mb 61) 61 = .ok (.iinc 4 1, 3))) rfl rfl rfl
  · exact fun d lv st M Q => jx_k_goto (jx_fok (by decide +kernel : decode (jx_mb 61) 64 = .ok (.goto (-36), 3))) rfl
  · exact fun d st M Q l1 l2 l3 l4 x => jx_ev_st (jx_fok (by decide +kernel : decode (jx_mb 61) 67 = .ok (.aload_n 0, 1))) rfl rfl rfl
  · exact fun d lv st M Q => jx_k_gf (jx_fok (by decide +kernel : decode (jx_mb 61) 68 = .ok (.getfield 55, 3))) rfl rfl rfl
  · exact fun d lv st M Q k hk => jx_k_gf (jx_fok (by decide +kernel : decode (jx_mb 61) 71 = .ok (.getfield 114, 3))) rfl hk rfl
  · exact fun d st M Q l0 l2 l3 l4 x => jx_ev_st (jx_fok (by decide +kernel : decode (jx_mb 61) 74 = .ok (.iload_n 1, 1))) rfl rfl rfl
  · exact fun d st M Q l0 l1 l3 l4 x => jx_ev_st (jx_fok (by decide +kernel : decode (jx_mb 61) 75 = .ok (.iload_n 2, 1))) rfl rfl rfl
  · exact fun d lv st M Q x z a ha => jx_k_as (jx_fok (by decide +kernel : decode (jx_mb 61) 76 = .ok (.iastore, 1))) ha
  · exact fun d st M Q l0 l1 l2 l4 x => jx_ev_st (jx_fok (by decide +kernel : decode (jx_mb 61) 77 = .ok (.iload_n 3, 1))) rfl rfl rfl
  · exact fun d lv M Q x => jx_k_ri (jx_fok (by decide +kernel : decode (jx_mb 61) 78 = .ok (.ireturn, 1))) rfl
theorem eX7_kinds_28 (d : Nat) (st : List Value) (M : jx_M) (Q : jx_Po) (l0 l1 l2 l3 : Option Value) (x : Int32) : jx_Ev d 61 28 [l0, l1, l2, l3, some (.int x)] st M Q ↔ jx_Ev d 61 30 [l0, l1, l2, l3, some (.int x)] (.int x :: st) M Q := jx_ev_st (jx_fok (by decide +kernel : decode (jx_mb 61) 28 = .ok (.iload 4, 2))) rfl rfl rfl
theorem kX7_kinds (d : Nat) (M : jx_M) (q : Int32 → jx_M → Prop) (a0 a1 : Value) : jx_I d 61 [a0, a1] M q ↔ jx_Ev d 61 0 [some a0, some a1, none, none, none] [] M (jx_qI q) := Iff.rfl
set_option maxRecDepth 100000 in
theorem eX7_damps :
  (∀ (d : Nat) (st : List Value) (M : jx_M) (Q : jx_Po) (l1 l2 l3 : Option Value) (x : Nat), jx_Ev d 62 0 [some (.ref x), l1, l2, l3] st M Q ↔ jx_Ev d 62 1 [some (.ref x), l1, l2, l3] (.ref x :: st) M Q) ∧
  (∀ (d : Nat) (lv : List (Option Value)) (st : List Value) (M : jx_M) (Q : jx_Po), jx_Ev d 62 1 lv (.ref 0 :: st) M Q ↔ jx_Ev d 62 4 lv (jx_rv (M 0 6) :: st) M Q) ∧
  (∀ (d : Nat) (lv : List (Option Value)) (M : jx_M) (Q : jx_Po) (a0 : Nat) (hk : jx_cl a0 = 1), jx_Ev (d + 1) 62 4 lv [.ref a0] M Q ↔ jx_I d 4 [.ref a0] M (fun x M => jx_Ev (d + 1) 62 7 lv (.int x :: []) M Q)) ∧
  (∀ (d : Nat) (lv : List (Option Value)) (st : List Value) (M : jx_M) (Q : jx_Po) (x : Int32), jx_Ev d 62 7 lv (.int x :: st) M Q ↔ (if x = 0 then jx_Ev d 62 10 lv st M Q else jx_Ev d 62 13 lv st M Q)) ∧
  (∀ (d : Nat) (lv : List (Option Value)) (st : List Value) (M : jx_M) (Q : jx_Po), jx_Ev d 62 10 lv st M Q ↔ jx_Ev d 62 12 lv (.int (-3) :: st) M Q) ∧
  (∀ (d : Nat) (lv : List (Option Value)) (M : jx_M) (Q : jx_Po) (x : Int32), jx_Ev d 62 12 lv [.int x] M Q ↔ Q [.int x] M) ∧
  (∀ (d : Nat) (st : List Value) (M : jx_M) (Q : jx_Po) (l1 l2 l3 : Option Value) (x : Nat), jx_Ev d 62 13 [some (.ref x), l1, l2, l3] st M Q ↔ jx_Ev d 62 14 [some (.ref x), l1, l2, l3] (.ref x :: st) M Q) ∧
  (∀ (d : Nat) (lv : List (Option Value)) (st : List Value) (M : jx_M) (Q : jx_Po), jx_Ev d 62 14 lv (.ref 0 :: st) M Q ↔ jx_Ev d 62 17 lv (jx_rv (M 0 6) :: st) M Q) ∧
  (∀ (d : Nat) (lv : List (Option Value)) (st : List Value) (M : jx_M) (Q : jx_Po) (k : Nat) (hk : jx_cl k = 1), jx_Ev d 62 17 lv (.ref k :: st) M Q ↔ jx_Ev d 62 20 lv (.int (M k 7) :: st) M Q) ∧
  (∀ (d : Nat) (st : List Value) (M : jx_M) (Q : jx_Po) (l0 l1 l2 l3 : Option Value) (x : Int32), jx_Ev d 62 20 [l0, l1, l2, l3] (.int x :: st) M Q ↔ jx_Ev d 62 21 [l0, some (.int x), l2, l3] st M Q) ∧
  (∀ (d : Nat) (lv : List (Option Value)) (st : List Value) (M : jx_M) (Q : jx_Po), jx_Ev d 62 21 lv st M Q ↔ jx_Ev d 62 22 lv (.int 0 :: st) M Q) ∧
  (∀ (d : Nat) (st : List Value) (M : jx_M) (Q : jx_Po) (l0 l1 l2 l3 : Option Value) (x : Int32), jx_Ev d 62 22 [l0, l1, l2, l3] (.int x :: st) M Q ↔ jx_Ev d 62 23 [l0, l1, some (.int x), l3] st M Q) ∧
  (∀ (d : Nat) (lv : List (Option Value)) (st : List Value) (M : jx_M) (Q : jx_Po), jx_Ev d 62 23 lv st M Q ↔ jx_Ev d 62 24 lv (.int 0 :: st) M Q) ∧
  (∀ (d : Nat) (st : List Value) (M : jx_M) (Q : jx_Po) (l0 l1 l2 l3 : Option Value) (x : Int32), jx_Ev d 62 24 [l0, l1, l2, l3] (.int x :: st) M Q ↔ jx_Ev d 62 25 [l0, l1, l2, some (.int x)] st M Q) ∧
  (∀ (d : Nat) (lv : List (Option Value)) (st : List Value) (M : jx_M) (Q : jx_Po), jx_Ev d 62 26 lv st M Q ↔ jx_Ev d 62 27 lv (.int 3 :: st) M Q) ∧
  (∀ (d : Nat) (lv : List (Option Value)) (st : List Value) (M : jx_M) (Q : jx_Po) (x z : Int32), jx_Ev d 62 27 lv (.int z :: .int x :: st) M Q ↔ (if z < x then jx_Ev d 62 59 lv st M Q else jx_Ev d 62 30 lv st M Q)) ∧
  (∀ (d : Nat) (st : List Value) (M : jx_M) (Q : jx_Po) (l1 l2 l3 : Option Value) (x : Nat), jx_Ev d 62 30 [some (.ref x), l1, l2, l3] st M Q ↔ jx_Ev d 62 31 [some (.ref x), l1, l2, l3] (.ref x :: st) M Q) ∧
  (∀ (d : Nat) (lv : List (Option Value)) (st : List Value) (M : jx_M) (Q : jx_Po), jx_Ev d 62 31 lv (.ref 0 :: st) M Q ↔ jx_Ev d 62 34 lv (jx_rv (M 0 6) :: st) M Q) ∧
  (∀ (d : Nat) (st : List Value) (M : jx_M) (Q : jx_Po) (l0 l1 l2 : Option Value) (x : Int32), jx_Ev d 62 34 [l0, l1, l2, some (.int x)] st M Q ↔ jx_Ev d 62 35 [l0, l1, l2, some (.int x)] (.int x :: st) M Q) ∧
  (∀ (d : Nat) (lv : List (Option Value)) (st : List Value) (M : jx_M) (Q : jx_Po) (x : Int32) (k : Nat) (hk : jx_cl k = 1), jx_Ev d 62 35 lv (.int x :: .ref k :: st) M Q ↔ jx_Ev d 62 38 lv st (jx_up M k 7 x) Q) ∧
  (∀ (d : Nat) (st : List Value) (M : jx_M) (Q : jx_Po) (l0 l1 l3 : Option Value) (x : Int32), jx_Ev d 62 38 [l0, l1, some (.int x), l3] st M Q ↔ jx_Ev d 62 39 [l0, l1, some (.int x), l3] (.int x :: st) M Q) ∧
  (∀ (d : Nat) (st : List Value) (M : jx_M) (Q : jx_Po) (l1 l2 l3 : Option Value) (x : Nat), jx_Ev d 62 39 [some (.ref x), l1, l2, l3] st M Q ↔ jx_Ev d 62 40 [some (.ref x), l1, l2, l3] (.ref x :: st) M Q) ∧
  (∀ (d : Nat) (lv : List (Option Value)) (st : List Value) (M : jx_M) (Q : jx_Po), jx_Ev d 62 40 lv (.ref 0 :: st) M Q ↔ jx_Ev d 62 43 lv (.ref 3 :: st) M Q) ∧
  (∀ (d : Nat) (st : List Value) (M : jx_M) (Q : jx_Po) (l1 l2 l3 : Option Value) (x : Nat), jx_Ev d 62 43 [some (.ref x), l1, l2, l3] st M Q ↔ jx_Ev d 62 44 [some (.ref x), l1, l2, l3] (.ref x :: st) M Q) ∧
  (∀ (d : Nat) (lv : List (Option Value)) (st : List Value) (M : jx_M) (Q : jx_Po), jx_Ev d 62 44 lv (.ref 0 :: st) M Q ↔ jx_Ev d 62 47 lv (jx_rv (M 0 6) :: st) M Q) ∧
  (∀ (d : Nat) (st : List Value) (M : jx_M) (Q : jx_Po) (l0 l1 l2 : Option Value) (x : Int32), jx_Ev d 62 47 [l0, l1, l2, some (.int x)] st M Q ↔ jx_Ev d 62 48 [l0, l1, l2, some (.int x)] (.int x :: st) M Q) ∧
  (∀ (d : Nat) (lv : List (Option Value)) (M : jx_M) (Q : jx_Po) (a0 : Int32) (a1 : Nat) (a3 : Int32), jx_Ev (d + 1) 62 48 lv [.int a0, .ref a1, .ref 3, .int a3] M Q ↔ jx_I d 19 [.ref 3, .ref a1, .int a0] M (fun x M => jx_Ev (d + 1) 62 51 lv (.int x :: [.int a3]) M Q)) ∧
  (∀ (d : Nat) (lv : List (Option Value)) (st : List Value) (M : jx_M) (Q : jx_Po) (x z : Int32), jx_Ev d 62 51 lv (.int z :: .int x :: st) M Q ↔ jx_Ev d 62 52 lv (.int (x ||| z) :: st) M Q) ∧
  (∀ (d : Nat) (st : List Value) (M : jx_M) (Q : jx_Po) (l0 l1 l2 l3 : Option Value) (x : Int32), jx_Ev d 62 52 [l0, l1, l2, l3] (.int x :: st) M Q ↔ jx_Ev d 62 53 [l0, l1, some (.int x), l3] st M Q) ∧
  (∀ (d : Nat) (st : List Value) (M : jx_M) (Q : jx_Po) (l0 l1 l2 : Option Value) (x : Int32), jx_Ev d 62 53 [l0, l1, l2, some (.int x)] st M Q ↔ jx_Ev d 62 56 [l0, l1, l2, some (.int (x + 1))] st M Q) ∧
  (∀ (d : Nat) (lv : List (Option Value)) (st : List Value) (M : jx_M) (Q : jx_Po), jx_Ev d 62 56 lv st M Q ↔ jx_Ev d 62 25 lv st M Q) ∧
  (∀ (d : Nat) (st : List Value) (M : jx_M) (Q : jx_Po) (l1 l2 l3 : Option Value) (x : Nat), jx_Ev d 62 59 [some (.ref x), l1, l2, l3] st M Q ↔ jx_Ev d 62 60 [some (.ref x), l1, l2, l3] (.ref x :: st) M Q) ∧
  (∀ (d : Nat) (lv : List (Option Value)) (st : List Value) (M : jx_M) (Q : jx_Po), jx_Ev d 62 60 lv (.ref 0 :: st) M Q ↔ jx_Ev d 62 63 lv (jx_rv (M 0 6) :: st) M Q) ∧
  (∀ (d : Nat) (st : List Value) (M : jx_M) (Q : jx_Po) (l0 l2 l3 : Option Value) (x : Int32), jx_Ev d 62 63 [l0, some (.int x), l2, l3] st M Q ↔ jx_Ev d 62 64 [l0, some (.int x), l2, l3] (.int x :: st) M Q) ∧
  (∀ (d : Nat) (lv : List (Option Value)) (st : List Value) (M : jx_M) (Q : jx_Po) (x : Int32) (k : Nat) (hk : jx_cl k = 1), jx_Ev d 62 64 lv (.int x :: .ref k :: st) M Q ↔ jx_Ev d 62 67 lv st (jx_up M k 7 x) Q) ∧
  (∀ (d : Nat) (st : List Value) (M : jx_M) (Q : jx_Po) (l0 l1 l3 : Option Value) (x : Int32), jx_Ev d 62 67 [l0, l1, some (.int x), l3] st M Q ↔ jx_Ev d 62 68 [l0, l1, some (.int x), l3] (.int x :: st) M Q) ∧
  (∀ (d : Nat) (lv : List (Option Value)) (M : jx_M) (Q : jx_Po) (x : Int32), jx_Ev d 62 68 lv [.int x] M Q ↔ Q [.int x] M) := by
  refine ⟨?_, ?_, ?_, ?_, ?_, ?_, ?_, ?_, ?_, ?_, ?_, ?_, ?_, ?_, ?_, ?_, ?_, ?_, ?_, ?_, ?_, ?_, ?_, ?_, ?_, ?_, ?_, ?_, ?_, ?_, ?_, ?_, ?_, ?_, ?_, ?_, ?_⟩
  · exact fun d st M Q l1 l2 l3 x => jx_ev_st (jx_fok (by decide +kernel : decode (jx_mb 62) 0 = .ok (.aload_n 0, 1))) rfl rfl rfl
  · exact fun d lv st M Q => jx_k_gf (jx_fok (by decide +kernel : decode (jx_mb 62) 1 = .ok (.getfield 55, 3))) rfl rfl rfl
  · exact fun d lv M Q a0 hk => jx_ev_ci (jx_fok (by decide +kernel : decode (jx_mb 62) 4 = .ok (.invokevirtual 123, 3))) rfl (jx_ccV (As := []) (rest := []) rfl rfl rfl hk rfl rfl) (by decide)
  · exact fun d lv st M Q x => jx_k_b1n (jx_fok (by decide +kernel : decode (jx_mb 62) 7 = .ok (.ifCond .ne 6, 3))) rfl jx_hNe
  · exact fun d lv st M Q => jx_ev_st (jx_fok (by decide +kernel : decode (jx_mb 62) 10 = .ok (.bipush (-3), 2))) rfl rfl rfl
  · exact fun d lv M Q x => jx_k_ri (jx_fok (by decide +kernel : decode (jx_mb 62) 12 = .ok (.ireturn, 1))) rfl
  · exact fun d st M Q l1 l2 l3 x => jx_ev_st (jx_fok (by decide +kernel : decode (jx_mb 62) 13 = .ok (.aload_n 0, 1))) rfl rfl rfl
  · exact fun d lv st M Q => jx_k_gf (jx_fok (by decide +kernel : decode (jx_mb 62) 14 = .ok (.getfield 55, 3))) rfl rfl rfl
  · exact fun d lv st M Q k hk => jx_k_gf (jx_fok (by decide +kernel : decode (jx_mb 62) 17 = .ok (.getfield 127, 3))) rfl hk rfl
  · exact fun d st M Q l0 l1 l2 l3 x => jx_ev_st (jx_fok (by decide +kernel : decode (jx_mb 62) 20 = .ok (.istore_n 1, 1))) rfl rfl rfl
  · exact fun d lv st M Q => jx_ev_st (jx_fok (by decide +kernel : decode (jx_mb 62) 21 = .ok (.iconst 0, 1))) rfl rfl rfl
  · exact fun d st M Q l0 l1 l2 l3 x => jx_ev_st (jx_fok (by decide +kernel : decode (jx_mb 62) 22 = .ok (.istore_n 2, 1))) rfl rfl rfl
  · exact fun d lv st M Q => jx_ev_st (jx_fok (by decide +kernel : decode (jx_mb 62) 23 = .ok (.iconst 0, 1))) rfl rfl rfl
  · exact fun d st M Q l0 l1 l2 l3 x => jx_ev_st (jx_fok (by decide +kernel : decode (jx_mb 62) 24 = .ok (.istore_n 3, 1))) rfl rfl rfl
  · exact fun d lv st M Q => jx_ev_st (jx_fok (by decide +kernel : decode (jx_mb 62) 26 = .ok (.iconst 3, 1))) rfl rfl rfl
  · exact fun d lv st M Q x z => jx_k_b2 (jx_fok (by decide +kernel : decode (jx_mb 62) 27 = .ok (.if_icmp .gt 32, 3))) rfl jx_hGt
  · exact fun d st M Q l1 l2 l3 x => jx_ev_st (jx_fok (by decide +kernel : decode (jx_mb 62) 30 = .ok (.aload_n 0, 1))) rfl rfl rfl
  · exact fun d lv st M Q => jx_k_gf (jx_fok (by decide +kernel : decode (jx_mb 62) 31 = .ok (.getfield 55, 3))) rfl rfl rfl
  · exact fun d st M Q l0 l1 l2 x => jx_ev_st (jx_fok (by decide +kernel : decode (jx_mb 62) 34 = .ok (.iload_n 3, 1))) rfl rfl rfl
  · exact fun d lv st M Q x k hk => jx_k_pf0 (jx_fok (by decide +kernel : decode (jx_mb 62) 35 = .ok (.putfield 127, 3))) rfl hk rfl
  · exact fun d st M Q l0 l1 l3 x => jx_ev_st (jx_fok (by decide +kernel : decode (jx_mb 62) 38 = .ok (.iload_n 2, 1))) rfl rfl rfl
  · exact fun d st M Q l1 l2 l3 x => jx_ev_st (jx_fok (by decide +kernel : decode (jx_mb 62) 39 = .ok (.aload_n 0, 1))) rfl rfl rfl
  · exact fun d lv st M Q => jx_k_gf (jx_fok (by decide +kernel : decode (jx_mb 62) 40 = .ok (.getfield 27, 3))) rfl rfl rfl
  · exact fun d st M Q l1 l2 l3 x => jx_ev_st (jx_fok (by decide +kernel : decode (jx_mb 62) 43 = .ok (.aload_n 0, 1))) rfl rfl rfl
  · exact fun d lv st M Q => jx_k_gf (jx_fok (by decide +kernel : decode (jx_mb 62) 44 = .ok (.getfield 55, 3))) rfl rfl rfl
  · exact fun d st M Q l0 l1 l2 x => jx_ev_st (jx_fok (by decide +kernel : decode (jx_mb 62) 47 = .ok (.iload_n 3, 1))) rfl rfl rfl
  · exact fun d lv M Q a0 a1 a3 => jx_ev_ci (jx_fok (by decide +kernel : decode (jx_mb 62) 48 = .ok (.invokevirtual 200, 3))) rfl (jx_ccV (As := [.ref a1, .int a0]) (rest := [.int a3]) rfl rfl rfl rfl rfl rfl) (by decide)
  · exact fun d lv st M Q x z => jx_ev_st (jx_fok (by decide +kernel : decode (jx_mb 62) 51 = .ok (.ior, 1))) rfl rfl rfl
  · exact fun d st M Q l0 l1 l2 l3 x => jx_ev_st (jx_fok (by decide +kernel : decode (jx_mb 62) 52 = .ok (.istore_n 2, 1))) rfl rfl rfl
  · exact fun d st M Q l0 l1 l2 x => jx_ev_st (jx_fok (by decide +kernel : decode (jx_mb 62) 53 = .ok (.iinc 3 1, 3))) rfl rfl rfl
  · exact fun d lv st M Q => jx_k_goto (jx_fok (by decide +kernel : decode (jx_mb 62) 56 = .ok (.goto (-31), 3))) rfl
  · exact fun d st M Q l1 l2 l3 x => jx_ev_st (jx_fok (by decide +kernel : decode (jx_mb 62) 59 = .ok (.aload_n 0, 1))) rfl rfl rfl
  · exact fun d lv st M Q => jx_k_gf (jx_fok (by decide +kernel : decode (jx_mb 62) 60 = .ok (.getfield 55, 3))) rfl rfl rfl
  · exact fun d st M Q l0 l2 l3 x => jx_ev_st (jx_fok (by decide +kernel : decode (jx_mb 62) 63 = .ok (.iload_n 1, 1))) rfl rfl rfl
  · exact fun d lv st M Q x k hk => jx_k_pf0 (jx_fok (by decide +kernel : decode (jx_mb 62) 64 = .ok (.putfield 127, 3))) rfl hk rfl
  · exact fun d st M Q l0 l1 l3 x => jx_ev_st (jx_fok (by decide +kernel : decode (jx_mb 62) 67 = .ok (.iload_n 2, 1))) rfl rfl rfl
  · exact fun d lv M Q x => jx_k_ri (jx_fok (by decide +kernel : decode (jx_mb 62) 68 = .ok (.ireturn, 1))) rfl
theorem eX7_damps_25 (d : Nat) (st : List Value) (M : jx_M) (Q : jx_Po) (l0 l1 l2 : Option Value) (x : Int32) : jx_Ev d 62 25 [l0, l1, l2, some (.int x)] st M Q ↔ jx_Ev d 62 26 [l0, l1, l2, some (.int x)] (.int x :: st) M Q := jx_ev_st (jx_fok (by decide +kernel : decode (jx_mb 62) 25 = .ok (.iload_n 3, 1))) rfl rfl rfl
theorem kX7_damps (d : Nat) (M : jx_M) (q : Int32 → jx_M → Prop) (a0 : Value) : jx_I d 62 [a0] M q ↔ jx_Ev d 62 0 [some a0, none, none, none] [] M (jx_qI q) := Iff.rfl
set_option maxRecDepth 100000 in
theorem eX7_odds :
  (∀ (d : Nat) (st : List Value) (M : jx_M) (Q : jx_Po) (l1 l2 l3 l4 l5 l6 l7 : Option Value) (x : Nat), jx_Ev d 63 0 [some (.ref x), l1, l2, l3, l4, l5, l6, l7] st M Q ↔ jx_Ev d 63 1 [some (.ref x), l1, l2, l3, l4, l5, l6, l7] (.ref x :: st) M Q) ∧
  (∀ (d : Nat) (lv : List (Option Value)) (st : List Value) (M : jx_M) (Q : jx_Po), jx_Ev d 63 1 lv (.ref 0 :: st) M Q ↔ jx_Ev d 63 4 lv (jx_rv (M 0 6) :: st) M Q) ∧
  (∀ (d : Nat) (st : List Value) (M : jx_M) (Q : jx_Po) (l0 l2 l3 l4 l5 l6 l7 : Option Value) (x : Int32), jx_Ev d 63 4 [l0, some (.int x), l2, l3, l4, l5, l6, l7] st M Q ↔ jx_Ev d 63 5 [l0, some (.int x), l2, l3, l4, l5, l6, l7] (.int x :: st) M Q) ∧
  (∀ (d : Nat) (lv : List (Option Value)) (M : jx_M) (Q : jx_Po) (a0 : Int32) (a1 : Nat) (hk : jx_cl a1 = 1), jx_Ev (d + 1) 63 5 lv [.int a0, .ref a1] M Q ↔ jx_I d 6 [.ref a1, .int a0] M (fun x M => jx_Ev (d + 1) 63 8 lv (.int x :: []) M Q)) ∧
  (∀ (d : Nat) (lv : List (Option Value)) (st : List Value) (M : jx_M) (Q : jx_Po) (x : Int32), jx_Ev d 63 8 lv (.int x :: st) M Q ↔ (if x = 0 then jx_Ev d 63 27 lv st M Q else jx_Ev d 63 11 lv st M Q)) ∧
  (∀ (d : Nat) (st : List Value) (M : jx_M) (Q : jx_Po) (l0 l1 l3 l4 l5 l6 l7 : Option Value) (x : Int32), jx_Ev d 63 11 [l0, l1, some (.int x), l3, l4, l5, l6, l7] st M Q ↔ jx_Ev d 63 12 [l0, l1, some (.int x), l3, l4, l5, l6, l7] (.int x :: st) M Q) ∧
  (∀ (d : Nat) (lv : List (Option Value)) (M : jx_M) (Q : jx_Po) (a0 : Int32), jx_Ev (d + 1) 63 12 lv [.int a0] M Q ↔ jx_I d 81 [.int a0] M (fun x M => jx_Ev (d + 1) 63 15 lv (.int x :: []) M Q)) ∧
  (∀ (d : Nat) (lv : List (Option Value)) (st : List Value) (M : jx_M) (Q : jx_Po) (x : Int32), jx_Ev d 63 15 lv (.int x :: st) M Q ↔ (if x = 0 then jx_Ev d 63 27 lv st M Q else jx_Ev d 63 18 lv st M Q)) ∧
  (∀ (d : Nat) (st : List Value) (M : jx_M) (Q : jx_Po) (l0 l1 l2 l4 l5 l6 l7 : Option Value) (x : Int32), jx_Ev d 63 18 [l0, l1, l2, some (.int x), l4, l5, l6, l7] st M Q ↔ jx_Ev d 63 19 [l0, l1, l2, some (.int x), l4, l5, l6, l7] (.int x :: st) M Q) ∧
  (∀ (d : Nat) (lv : List (Option Value)) (st : List Value) (M : jx_M) (Q : jx_Po) (x : Int32), jx_Ev d 63 19 lv (.int x :: st) M Q ↔ (if x < 0 then jx_Ev d 63 27 lv st M Q else jx_Ev d 63 22 lv st M Q)) ∧
  (∀ (d : Nat) (st : List Value) (M : jx_M) (Q : jx_Po) (l0 l1 l2 l4 l5 l6 l7 : Option Value) (x : Int32), jx_Ev d 63 22 [l0, l1, l2, some (.int x), l4, l5, l6, l7] st M Q ↔ jx_Ev d 63 23 [l0, l1, l2, some (.int x), l4, l5, l6, l7] (.int x :: st) M Q) ∧
  (∀ (d : Nat) (lv : List (Option Value)) (st : List Value) (M : jx_M) (Q : jx_Po), jx_Ev d 63 23 lv st M Q ↔ jx_Ev d 63 24 lv (.int 1 :: st) M Q) ∧
  (∀ (d : Nat) (lv : List (Option Value)) (st : List Value) (M : jx_M) (Q : jx_Po) (x z : Int32), jx_Ev d 63 24 lv (.int z :: .int x :: st) M Q ↔ (if x ≤ z then jx_Ev d 63 31 lv st M Q else jx_Ev d 63 27 lv st M Q)) ∧
  (∀ (d : Nat) (lv : List (Option Value)) (st : List Value) (M : jx_M) (Q : jx_Po), jx_Ev d 63 27 lv st M Q ↔ jx_Ev d 63 30 lv (.long (-9223372036854775808) :: st) M Q) ∧
  (∀ (d : Nat) (lv : List (Option Value)) (M : jx_M) (Q : jx_Po) (x : Int64), jx_Ev d 63 30 lv [.long x] M Q ↔ Q [.long x] M) ∧
  (∀ (d : Nat) (st : List Value) (M : jx_M) (Q : jx_Po) (l1 l2 l3 l4 l5 l6 l7 : Option Value) (x : Nat), jx_Ev d 63 31 [some (.ref x), l1, l2, l3, l4, l5, l6, l7] st M Q ↔ jx_Ev d 63 32 [some (.ref x), l1, l2, l3, l4, l5, l6, l7] (.ref x :: st) M Q) ∧
  (∀ (d : Nat) (lv : List (Option Value)) (st : List Value) (M : jx_M) (Q : jx_Po), jx_Ev d 63 32 lv (.ref 0 :: st) M Q ↔ jx_Ev d 63 35 lv (jx_rv (M 0 6) :: st) M Q) ∧
  (∀ (d : Nat) (lv : List (Option Value)) (M : jx_M) (Q : jx_Po) (a0 : Nat) (hk : jx_cl a0 = 1), jx_Ev (d + 1) 63 35 lv [.ref a0] M Q ↔ jx_I d 9 [.ref a0] M (fun x M => jx_Ev (d + 1) 63 38 lv (.int x :: []) M Q)) ∧
  (∀ (d : Nat) (lv : List (Option Value)) (st : List Value) (M : jx_M) (Q : jx_Po), jx_Ev d 63 38 lv st M Q ↔ jx_Ev d 63 39 lv (.int 1 :: st) M Q) ∧
  (∀ (d : Nat) (lv : List (Option Value)) (st : List Value) (M : jx_M) (Q : jx_Po) (x z : Int32), jx_Ev d 63 39 lv (.int z :: .int x :: st) M Q ↔ jx_Ev d 63 40 lv (.int (x + z) :: st) M Q) ∧
  (∀ (d : Nat) (st : List Value) (M : jx_M) (Q : jx_Po) (l0 l1 l2 l3 l4 l5 l6 l7 : Option Value) (x : Int32), jx_Ev d 63 40 [l0, l1, l2, l3, l4, l5, l6, l7] (.int x :: st) M Q ↔ jx_Ev d 63 42 [l0, l1, l2, l3, some (.int x), l5, l6, l7] st M Q) ∧
  (∀ (d : Nat) (lv : List (Option Value)) (st : List Value) (M : jx_M) (Q : jx_Po), jx_Ev d 63 42 lv st M Q ↔ jx_Ev d 63 43 lv (.int 0 :: st) M Q) ∧
  (∀ (d : Nat) (st : List Value) (M : jx_M) (Q : jx_Po) (l0 l1 l2 l3 l4 l5 l6 l7 : Option Value) (x : Int32), jx_Ev d 63 43 [l0, l1, l2, l3, l4, l5, l6, l7] (.int x :: st) M Q ↔ jx_Ev d 63 45 [l0, l1, l2, l3, l4, some (.int x), l6, l7] st M Q) ∧
  (∀ (d : Nat) (st : List Value) (M : jx_M) (Q : jx_Po) (l0 l1 l2 l3 l5 l6 l7 : Option Value) (x : Int32), jx_Ev d 63 45 [l0, l1, l2, l3, some (.int x), l5, l6, l7] st M Q ↔ jx_Ev d 63 47 [l0, l1, l2, l3, some (.int x), l5, l6, l7] (.int x :: st) M Q) ∧
  (∀ (d : Nat) (st : List Value) (M : jx_M) (Q : jx_Po) (l0 l1 l2 l3 l4 l5 l6 l7 : Option Value) (x : Int32), jx_Ev d 63 47 [l0, l1, l2, l3, l4, l5, l6, l7] (.int x :: st) M Q ↔ jx_Ev d 63 49 [l0, l1, l2, l3, l4, l5, some (.int x), l7] st M Q) ∧
  (∀ (d : Nat) (lv : List (Option Value)) (st : List Value) (M : jx_M) (Q : jx_Po), jx_Ev d 63 49 lv st M Q ↔ jx_Ev d 63 50 lv (.int 0 :: st) M Q) ∧
  (∀ (d : Nat) (st : List Value) (M : jx_M) (Q : jx_Po) (l0 l1 l2 l3 l4 l5 l6 l7 : Option Value) (x : Int32), jx_Ev d 63 50 [l0, l1, l2, l3, l4, l5, l6, l7] (.int x :: st) M Q ↔ jx_Ev d 63 52 [l0, l1, l2, l3, l4, l5, l6, some (.int x)] st M Q) ∧
  (∀ (d : Nat) (st : List Value) (M : jx_M) (Q : jx_Po) (l0 l1 l2 l3 l5 l6 l7 : Option Value) (x : Int32), jx_Ev d 63 54 [l0, l1, l2, l3, some (.int x), l5, l6, l7] st M Q ↔ jx_Ev d 63 56 [l0, l1, l2, l3, some (.int x), l5, l6, l7] (.int x :: st) M Q) ∧
  (∀ (d : Nat) (lv : List (Option Value)) (st : List Value) (M : jx_M) (Q : jx_Po) (x z : Int32), jx_Ev d 63 56 lv (.int z :: .int x :: st) M Q ↔ (if z ≤ x then jx_Ev d 63 84 lv st M Q else jx_Ev d 63 59 lv st M Q)) ∧
  (∀ (d : Nat) (st : List Value) (M : jx_M) (Q : jx_Po) (l1 l2 l3 l4 l5 l6 l7 : Option Value) (x : Nat), jx_Ev d 63 59 [some (.ref x), l1, l2, l3, l4, l5, l6, l7] st M Q ↔ jx_Ev d 63 60 [some (.ref x), l1, l2, l3, l4, l5, l6, l7] (.ref x :: st) M Q) ∧
  (∀ (d : Nat) (lv : List (Option Value)) (st : List Value) (M : jx_M) (Q : jx_Po), jx_Ev d 63 60 lv (.ref 0 :: st) M Q ↔ jx_Ev d 63 63 lv (jx_rv (M 0 6) :: st) M Q) ∧
  (∀ (d : Nat) (st : List Value) (M : jx_M) (Q : jx_Po) (l0 l2 l3 l4 l5 l6 l7 : Option Value) (x : Int32), jx_Ev d 63 63 [l0, some (.int x), l2, l3, l4, l5, l6, l7] st M Q ↔ jx_Ev d 63 64 [l0, some (.int x), l2, l3, l4, l5, l6, l7] (.int x :: st) M Q) ∧
  (∀ (d : Nat) (st : List Value) (M : jx_M) (Q : jx_Po) (l0 l1 l3 l4 l5 l6 l7 : Option Value) (x : Int32), jx_Ev d 63 64 [l0, l1, some (.int x), l3, l4, l5, l6, l7] st M Q ↔ jx_Ev d 63 65 [l0, l1, some (.int x), l3, l4, l5, l6, l7] (.int x :: st) M Q) ∧
  (∀ (d : Nat) (st : List Value) (M : jx_M) (Q : jx_Po) (l0 l1 l2 l3 l4 l5 l6 : Option Value) (x : Int32), jx_Ev d 63 65 [l0, l1, l2, l3, l4, l5, l6, some (.int x)] st M Q ↔ jx_Ev d 63 67 [l0, l1, l2, l3, l4, l5, l6, some (.int x)] (.int x :: st) M Q) ∧
  (∀ (d : Nat) (lv : List (Option Value)) (M : jx_M) (Q : jx_Po) (a0 : Int32) (a1 : Int32) (a2 : Int32) (a3 : Nat) (hk : jx_cl a3 = 1), jx_Ev (d + 1) 63 67 lv [.int a0, .int a1, .int a2, .ref a3] M Q ↔ jx_I d 11 [.ref a3, .int a2, .int a1, .int a0] M (fun x M => jx_Ev (d + 1) 63 70 lv (.int x :: []) M Q)) ∧
  (∀ (d : Nat) (lv : List (Option Value)) (st : List Value) (M : jx_M) (Q : jx_Po), jx_Ev d 63 70 lv st M Q ↔ jx_Ev d 63 72 lv (.int (-9) :: st) M Q) ∧
  (∀ (d : Nat) (lv : List (Option Value)) (st : List Value) (M : jx_M) (Q : jx_Po) (x z : Int32), jx_Ev d 63 72 lv (.int z :: .int x :: st) M Q ↔ (if x = z then jx_Ev d 63 78 lv st M Q else jx_Ev d 63 75 lv st M Q)) ∧
  (∀ (d : Nat) (st : List Value) (M : jx_M) (Q : jx_Po) (l0 l1 l2 l3 l4 l6 l7 : Option Value) (x : Int32), jx_Ev d 63 75 [l0, l1, l2, l3, l4, some (.int x), l6, l7] st M Q ↔ jx_Ev d 63 78 [l0, l1, l2, l3, l4, some (.int (x + 1)), l6, l7] st M Q) ∧
  (∀ (d : Nat) (st : List Value) (M : jx_M) (Q : jx_Po) (l0 l1 l2 l3 l4 l5 l6 : Option Value) (x : Int32), jx_Ev d 63 78 [l0, l1, l2, l3, l4, l5, l6, some (.int x)] st M Q ↔ jx_Ev d 63 81 [l0, l1, l2, l3, l4, l5, l6, some (.int (x + 1))] st M Q) ∧
  (∀ (d : Nat) (lv : List (Option Value)) (st : List Value) (M : jx_M) (Q : jx_Po), jx_Ev d 63 81 lv st M Q ↔ jx_Ev d 63 52 lv st M Q) ∧
  (∀ (d : Nat) (lv : List (Option Value)) (st : List Value) (M : jx_M) (Q : jx_Po), jx_Ev d 63 84 lv st M Q ↔ jx_Ev d 63 85 lv (.int 0 :: st) M Q) ∧
  (∀ (d : Nat) (st : List Value) (M : jx_M) (Q : jx_Po) (l0 l1 l2 l3 l4 l5 l6 l7 : Option Value) (x : Int32), jx_Ev d 63 85 [l0, l1, l2, l3, l4, l5, l6, l7] (.int x :: st) M Q ↔ jx_Ev d 63 87 [l0, l1, l2, l3, l4, l5, l6, some (.int x)] st M Q) ∧
  (∀ (d : Nat) (lv : List (Option Value)) (st : List Value) (M : jx_M) (Q : jx_Po), jx_Ev d 63 89 lv st M Q ↔ jx_Ev d 63 90 lv (.int 5 :: st) M Q) ∧
  (∀ (d : Nat) (lv : List (Option Value)) (st : List Value) (M : jx_M) (Q : jx_Po) (x z : Int32), jx_Ev d 63 90 lv (.int z :: .int x :: st) M Q ↔ (if z ≤ x then jx_Ev d 63 125 lv st M Q else jx_Ev d 63 93 lv st M Q)) ∧
  (∀ (d : Nat) (st : List Value) (M : jx_M) (Q : jx_Po) (l0 l1 l2 l3 l4 l6 l7 : Option Value) (x : Int32), jx_Ev d 63 93 [l0, l1, l2, l3, l4, some (.int x), l6, l7] st M Q ↔ jx_Ev d 63 95 [l0, l1, l2, l3, l4, some (.int x), l6, l7] (.int x :: st) M Q) ∧
  (∀ (d : Nat) (lv : List (Option Value)) (st : List Value) (M : jx_M) (Q : jx_Po), jx_Ev d 63 95 lv st M Q ↔ jx_Ev d 63 96 lv (.int 2 :: st) M Q) ∧
  (∀ (d : Nat) (lv : List (Option Value)) (st : List Value) (M : jx_M) (Q : jx_Po) (x z : Int32), jx_Ev d 63 96 lv (.int z :: .int x :: st) M Q ↔ (¬ z = 0 ∧ jx_Ev d 63 97 lv (.int (x - x / z * z) :: st) M Q)) ∧
  (∀ (d : Nat) (lv : List (Option Value)) (st : List Value) (M : jx_M) (Q : jx_Po) (x : Int32), jx_Ev d 63 97 lv (.int x :: st) M Q ↔ (if x = 0 then jx_Ev d 63 100 lv st M Q else jx_Ev d 63 125 lv st M Q)) ∧
  (∀ (d : Nat) (st : List Value) (M : jx_M) (Q : jx_Po) (l0 l1 l2 l3 l4 l5 l7 : Option Value) (x : Int32), jx_Ev d 63 100 [l0, l1, l2, l3, l4, l5, some (.int x), l7] st M Q ↔ jx_Ev d 63 102 [l0, l1, l2, l3, l4, l5, some (.int x), l7] (.int x :: st) M Q) ∧
  (∀ (d : Nat) (lv : List (Option Value)) (st : List Value) (M : jx_M) (Q : jx_Po), jx_Ev d 63 102 lv st M Q ↔ jx_Ev d 63 103 lv (.int 2 :: st) M Q) ∧
  (∀ (d : Nat) (lv : List (Option Value)) (st : List Value) (M : jx_M) (Q : jx_Po) (x z : Int32), jx_Ev d 63 103 lv (.int z :: .int x :: st) M Q ↔ (¬ z = 0 ∧ jx_Ev d 63 104 lv (.int (x - x / z * z) :: st) M Q)) ∧
  (∀ (d : Nat) (lv : List (Option Value)) (st : List Value) (M : jx_M) (Q : jx_Po) (x : Int32), jx_Ev d 63 104 lv (.int x :: st) M Q ↔ (if x = 0 then jx_Ev d 63 107 lv st M Q else jx_Ev d 63 125 lv st M Q)) ∧
  (∀ (d : Nat) (st : List Value) (M : jx_M) (Q : jx_Po) (l0 l1 l2 l3 l4 l6 l7 : Option Value) (x : Int32), jx_Ev d 63 107 [l0, l1, l2, l3, l4, some (.int x), l6, l7] st M Q ↔ jx_Ev d 63 109 [l0, l1, l2, l3, l4, some (.int x), l6, l7] (.int x :: st) M Q) ∧
  (∀ (d : Nat) (lv : List (Option Value)) (st : List Value) (M : jx_M) (Q : jx_Po), jx_Ev d 63 109 lv st M Q ↔ jx_Ev d 63 110 lv (.int 2 :: st) M Q) ∧
  (∀ (d : Nat) (lv : List (Option Value)) (st : List Value) (M : jx_M) (Q : jx_Po) (x z : Int32), jx_Ev d 63 110 lv (.int z :: .int x :: st) M Q ↔ (¬ z = 0 ∧ jx_Ev d 63 111 lv (.int (x / z) :: st) M Q)) ∧
  (∀ (d : Nat) (st : List Value) (M : jx_M) (Q : jx_Po) (l0 l1 l2 l3 l4 l5 l6 l7 : Option Value) (x : Int32), jx_Ev d 63 111 [l0, l1, l2, l3, l4, l5, l6, l7] (.int x :: st) M Q ↔ jx_Ev d 63 113 [l0, l1, l2, l3, l4, some (.int x), l6, l7] st M Q) ∧
  (∀ (d : Nat) (st : List Value) (M : jx_M) (Q : jx_Po) (l0 l1 l2 l3 l4 l5 l7 : Option Value) (x : Int32), jx_Ev d 63 113 [l0, l1, l2, l3, l4, l5, some (.int x), l7] st M Q ↔ jx_Ev d 63 115 [l0, l1, l2, l3, l4, l5, some (.int x), l7] (.int x :: st) M Q) ∧
  (∀ (d : Nat) (lv : List (Option Value)) (st : List Value) (M : jx_M) (Q : jx_Po), jx_Ev d 63 115 lv st M Q ↔ jx_Ev d 63 116 lv (.int 2 :: st) M Q) ∧
  (∀ (d : Nat) (lv : List (Option Value)) (st : List Value) (M : jx_M) (Q : jx_Po) (x z : Int32), jx_Ev d 63 116 lv (.int z :: .int x :: st) M Q ↔ (¬ z = 0 ∧ jx_Ev d 63 117 lv (.int (x / z) :: st) M Q)) ∧
  (∀ (d : Nat) (st : List Value) (M : jx_M) (Q : jx_Po) (l0 l1 l2 l3 l4 l5 l6 l7 : Option Value) (x : Int32), jx_Ev d 63 117 [l0, l1, l2, l3, l4, l5, l6, l7] (.int x :: st) M Q ↔ jx_Ev d 63 119 [l0, l1, l2, l3, l4, l5, some (.int x), l7] st M Q) ∧
  (∀ (d : Nat) (st : List Value) (M : jx_M) (Q : jx_Po) (l0 l1 l2 l3 l4 l5 l6 : Option Value) (x : Int32), jx_Ev d 63 119 [l0, l1, l2, l3, l4, l5, l6, some (.int x)] st M Q ↔ jx_Ev d 63 122 [l0, l1, l2, l3, l4, l5, l6, some (.int (x + 1))] st M Q) ∧
  (∀ (d : Nat) (lv : List (Option Value)) (st : List Value) (M : jx_M) (Q : jx_Po), jx_Ev d 63 122 lv st M Q ↔ jx_Ev d 63 87 lv st M Q) ∧
  (∀ (d : Nat) (st : List Value) (M : jx_M) (Q : jx_Po) (l0 l1 l2 l4 l5 l6 l7 : Option Value) (x : Int32), jx_Ev d 63 125 [l0, l1, l2, some (.int x), l4, l5, l6, l7] st M Q ↔ jx_Ev d 63 126 [l0, l1, l2, some (.int x), l4, l5, l6, l7] (.int x :: st) M Q) ∧
  (∀ (d : Nat) (lv : List (Option Value)) (st : List Value) (M : jx_M) (Q : jx_Po) (x : Int32), jx_Ev d 63 126 lv (.int x :: st) M Q ↔ (if x = 0 then jx_Ev d 63 129 lv st M Q else jx_Ev d 63 135 lv st M Q)) ∧
  (∀ (d : Nat) (st : List Value) (M : jx_M) (Q : jx_Po) (l0 l1 l2 l3 l4 l6 l7 : Option Value) (x : Int32), jx_Ev d 63 129 [l0, l1, l2, l3, l4, some (.int x), l6, l7] st M Q ↔ jx_Ev d 63 131 [l0, l1, l2, l3, l4, some (.int x), l6, l7] (.int x :: st) M Q) ∧
  (∀ (d : Nat) (lv : List (Option Value)) (st : List Value) (M : jx_M) (Q : jx_Po) (x : Int32), jx_Ev d 63 131 lv (.int x :: st) M Q ↔ jx_Ev d 63 132 lv (.long x.toInt64 :: st) M Q) ∧
  (∀ (d : Nat) (lv : List (Option Value)) (st : List Value) (M : jx_M) (Q : jx_Po), jx_Ev d 63 132 lv st M Q ↔ jx_Ev d 63 138 lv st M Q) ∧
  (∀ (d : Nat) (st : List Value) (M : jx_M) (Q : jx_Po) (l0 l1 l2 l3 l4 l5 l7 : Option Value) (x : Int32), jx_Ev d 63 135 [l0, l1, l2, l3, l4, l5, some (.int x), l7] st M Q ↔ jx_Ev d 63 137 [l0, l1, l2, l3, l4, l5, some (.int x), l7] (.int x :: st) M Q) ∧
  (∀ (d : Nat) (lv : List (Option Value)) (st : List Value) (M : jx_M) (Q : jx_Po) (x : Int32), jx_Ev d 63 137 lv (.int x :: st) M Q ↔ jx_Ev d 63 138 lv (.long x.toInt64 :: st) M Q) ∧
  (∀ (d : Nat) (lv : List (Option Value)) (M : jx_M) (Q : jx_Po) (x : Int64), jx_Ev d 63 138 lv [.long x] M Q ↔ Q [.long x] M) := by
  refine ⟨?_, ?_, ?_, ?_, ?_, ?_, ?_, ?_, ?_, ?_, ?_, ?_, ?_, ?_, ?_, ?_, ?_, ?_, ?_, ?_, ?_, ?_, ?_, ?_, ?_, ?_, ?_, ?_, ?_, ?_, ?_, ?_, ?_, ?_, ?_, ?_, ?_, ?_, ?_, ?_, ?_, ?_, ?_, ?_, ?_, ?_, ?_, ?_, ?_, ?_, ?_, ?_, ?_, ?_, ?_, ?_, ?_, ?_, ?_, ?_, ?_, ?_, ?_, ?_, ?_, ?_, ?_, ?_, ?_, ?_⟩
  · exact fun d st M Q l1 l2 l3 l4 l5 l6 l7 x => jx_ev_st (jx_fok (by decide +kernel : decode (jx_mb 63) 0 = .ok (.aload_n 0, 1))) rfl rfl rfl
  · exact fun d lv st M Q => jx_k_gf (jx_fok (by decide +kernel : decode (jx_mb 63) 1 = .ok (.getfield 55, 3))) rfl rfl rfl
  · exact fun d st M Q l0 l2 l3 l4 l5 l6 l7 x => jx_ev_st (jx_fok (by decide +kernel : decode (jx_mb 63) 4 = .ok (.iload_n 1, 1))) rfl rfl rfl
  · exact fun d lv M Q a0 a1 hk => jx_ev_ci (jx_fok (by decide +kernel : decode (jx_mb 63) 5 = .ok (.invokevirtual 111, 3))) rfl (jx_ccV (As := [.int a0]) (rest := []) rfl rfl rfl hk rfl rfl) (by decide)
  · exact fun d lv st M Q x => jx_k_b1 (jx_fok (by decide +kernel : decode (jx_mb 63) 8 = .ok (.ifCond .eq 19, 3))) rfl jx_hEq
  · exact fun d st M Q l0 l1 l3 l4 l5 l6 l7 x => jx_ev_st (jx_fok (by decide +kernel : decode (jx_mb 63) 11 = .ok (.iload_n 2, 1))) rfl rfl rfl
  · exact fun d lv M Q a0 => jx_ev_ci (jx_fok (by decide +kernel : decode (jx_mb 63) 12 = .ok (.invokestatic 130, 3))) rfl (jx_ccS (As := [.int a0]) (rest := []) rfl rfl rfl rfl rfl) (by decide)
  · exact fun d lv st M Q x => jx_k_b1 (jx_fok (by decide +kernel : decode (jx_mb 63) 15 = .ok (.ifCond .eq 12, 3))) rfl jx_hEq
  · exact fun d st M Q l0 l1 l2 l4 l5 l6 l7 x => jx_ev_st (jx_fok (by decide +kernel : decode (jx_mb 63) 18 = .ok (.iload_n 3, 1))) rfl rfl rfl
  · exact fun d lv st M Q x => jx_k_b1 (jx_fok (by decide +kernel : decode (jx_mb 63) 19 = .ok (.ifCond .lt 8, 3))) rfl jx_hLt
  · exact fun d st M Q l0 l1 l2 l4 l5 l6 l7 x => jx_ev_st (jx_fok (by decide +kernel : decode (jx_mb 63) 22 = .ok (.iload_n 3, 1))) rfl rfl rfl
  · exact fun d lv st M Q => jx_ev_st (jx_fok (by decide +kernel : decode (jx_mb 63) 23 = .ok (.iconst 1, 1))) rfl rfl rfl
  · exact fun d lv st M Q x z => jx_k_b2 (jx_fok (by decide +kernel : decode (jx_mb 63) 24 = .ok (.if_icmp .le 7, 3))) rfl jx_hLe
  · exact fun d lv st M Q => jx_ev_st (jx_fok (by decide +kernel : decode (jx_mb 63) 27 = .ok (.ldc2_w 203, 3))) rfl rfl rfl
  · exact fun d lv M Q x => jx_k_rl (jx_fok (by decide +kernel : decode (jx_mb 63) 30 = .ok (.lreturn, 1))) rfl
  · exact fun d st M Q l1 l2 l3 l4 l5 l6 l7 x => jx_ev_st (jx_fok (by decide +kernel : decode (jx_mb 63) 31 = .ok (.aload_n 0, 1))) rfl rfl rfl
  · exact fun d lv st M Q => jx_k_gf (jx_fok (by decide +kernel : decode (jx_mb 63) 32 = .ok (.getfield 55, 3))) rfl rfl rfl
  · exact fun d lv M Q a0 hk => jx_ev_ci (jx_fok (by decide +kernel : decode (jx_mb 63) 35 = .ok (.invokevirtual 137, 3))) rfl (jx_ccV (As := []) (rest := []) rfl rfl rfl hk rfl rfl) (by decide)
  · exact fun d lv st M Q => jx_ev_st (jx_fok (by decide +kernel : decode (jx_mb 63) 38 = .ok (.iconst 1, 1))) rfl rfl rfl
  · exact fun d lv st M Q x z => jx_ev_st (jx_fok (by decide +kernel : decode (jx_mb 63) 39 = .ok (.iadd, 1))) rfl rfl rfl
  · exact fun d st M Q l0 l1 l2 l3 l4 l5 l6 l7 x => jx_ev_st (jx_fok (by decide +kernel : decode (jx_mb 63) 40 = .ok (.istore 4, 2))) rfl rfl rfl
  · exact fun d lv st M Q => jx_ev_st (jx_fok (by decide +kernel : decode (jx_mb 63) 42 = .ok (.iconst 0, 1))) rfl rfl rfl
  · exact fun d st M Q l0 l1 l2 l3 l4 l5 l6 l7 x => jx_ev_st (jx_fok (by decide +kernel : decode (jx_mb 63) 43 = .ok (.istore 5, 2))) rfl rfl rfl
  · exact fun d st M Q l0 l1 l2 l3 l5 l6 l7 x => jx_ev_st (jx_fok (by decide +kernel : decode (jx_mb 63) 45 = .ok (.iload 4, 2))) rfl rfl rfl
  · exact fun d st M Q l0 l1 l2 l3 l4 l5 l6 l7 x => jx_ev_st (jx_fok (by decide +kernel : decode (jx_mb 63) 47 = .ok (.istore 6, 2))) rfl rfl rfl
  · exact fun d lv st M Q => jx_ev_st (jx_fok (by decide +kernel : decode (jx_mb 63) 49 = .ok (.iconst 0, 1))) rfl rfl rfl
  · exact fun d st M Q l0 l1 l2 l3 l4 l5 l6 l7 x => jx_ev_st (jx_fok (by decide +kernel : decode (jx_mb 63) 50 = .ok (.istore 7, 2))) rfl rfl rfl
  · exact fun d st M Q l0 l1 l2 l3 l5 l6 l7 x => jx_ev_st (jx_fok (by decide +kernel : decode (jx_mb 63) 54 = .ok (.iload 4, 2))) rfl rfl rfl
  · exact fun d lv st M Q x z => jx_k_b2 (jx_fok (by decide +kernel : decode (jx_mb 63) 56 = .ok (.if_icmp .ge 28, 3))) rfl jx_hGe
  · exact fun d st M Q l1 l2 l3 l4 l5 l6 l7 x => jx_ev_st (jx_fok (by decide +kernel : decode (jx_mb 63) 59 = .ok (.aload_n 0, 1))) rfl rfl rfl
  · exact fun d lv st M Q => jx_k_gf (jx_fok (by decide +kernel : decode (jx_mb 63) 60 = .ok (.getfield 55, 3))) rfl rfl rfl
  · exact fun d st M Q l0 l2 l3 l4 l5 l6 l7 x => jx_ev_st (jx_fok (by decide +kernel : decode (jx_mb 63) 63 = .ok (.iload_n 1, 1))) rfl rfl rfl
  · exact fun d st M Q l0 l1 l3 l4 l5 l6 l7 x => jx_ev_st (jx_fok (by decide +kernel : decode (jx_mb 63) 64 = .ok (.iload_n 2, 1))) rfl rfl rfl
  · exact fun d st M Q l0 l1 l2 l3 l4 l5 l6 x => jx_ev_st (jx_fok (by decide +kernel : decode (jx_mb 63) 65 = .ok (.iload 7, 2))) rfl rfl rfl
  · exact fun d lv M Q a0 a1 a2 a3 hk => jx_ev_ci (jx_fok (by decide +kernel : decode (jx_mb 63) 67 = .ok (.invokevirtual 141, 3))) rfl (jx_ccV (As := [.int a2, .int a1, .int a0]) (rest := []) rfl rfl rfl hk rfl rfl) (by decide)
  · exact fun d lv st M Q => jx_ev_st (jx_fok (by decide +kernel : decode (jx_mb 63) 70 = .ok (.bipush (-9), 2))) rfl rfl rfl
  · exact fun d lv st M Q x z => jx_k_b2 (jx_fok (by decide +kernel : decode (jx_mb 63) 72 = .ok (.if_icmp .eq 6, 3))) rfl jx_hEq
  · exact fun d st M Q l0 l1 l2 l3 l4 l6 l7 x => jx_ev_st (jx_fok (by decide +kernel : decode (jx_mb 63) 75 = .ok (.iinc 5 1, 3))) rfl rfl rfl
  · exact fun d st M Q l0 l1 l2 l3 l4 l5 l6 x => jx_ev_st (jx_fok (by decide +kernel : decode (jx_mb 63) 78 = .ok (.iinc 7 1, 3))) rfl rfl rfl
  · exact fun d lv st M Q => jx_k_goto (jx_fok (by decide +kernel : decode (jx_mb 63) 81 = .ok (.goto (-29), 3))) rfl
  · exact fun d lv st M Q => jx_ev_st (jx_fok (by decide +kernel : decode (jx_mb 63) 84 = .ok (.iconst 0, 1))) rfl rfl rfl
  · exact fun d st M Q l0 l1 l2 l3 l4 l5 l6 l7 x => jx_ev_st (jx_fok (by decide +kernel : decode (jx_mb 63) 85 = .ok (.istore 7, 2))) rfl rfl rfl
  · exact fun d lv st M Q => jx_ev_st (jx_fok (by decide +kernel : decode (jx_mb 63) 89 = .ok (.iconst 5, 1))) rfl rfl rfl
  · exact fun d lv st M Q x z => jx_k_b2 (jx_fok (by decide +kernel : decode (jx_mb 63) 90 = .ok (.if_icmp .ge 35, 3))) rfl jx_hGe
  · exact fun d st M Q l0 l1 l2 l3 l4 l6 l7 x => jx_ev_st (jx_fok (by decide +kernel : decode (jx_mb 63) 93 = .ok (.iload 5, 2))) rfl rfl rfl
  · exact fun d lv st M Q => jx_ev_st (jx_fok (by decide +kernel : decode (jx_mb 63) 95 = .ok (.iconst 2, 1))) rfl rfl rfl
  · exact fun d lv st M Q x z => jx_k_irem (jx_fok (by decide +kernel : decode (jx_mb 63) 96 = .ok (.irem, 1)))
  · exact fun d lv st M Q x => jx_k_b1n (jx_fok (by decide +kernel : decode (jx_mb 63) 97 = .ok (.ifCond .ne 28, 3))) rfl jx_hNe
  · exact fun d st M Q l0 l1 l2 l3 l4 l5 l7 x => jx_ev_st (jx_fok (by decide +kernel : decode (jx_mb 63) 100 = .ok (.iload 6, 2))) rfl rfl rfl
  · exact fun d lv st M Q => jx_ev_st (jx_fok (by decide +kernel : decode (jx_mb 63) 102 = .ok (.iconst 2, 1))) rfl rfl rfl
  · exact fun d lv st M Q x z => jx_k_irem (jx_fok (by decide +kernel : decode (jx_mb 63) 103 = .ok (.irem, 1)))
  · exact fun d lv st M Q x => jx_k_b1n (jx_fok (by decide +kernel : decode (jx_mb 63) 104 = .ok (.ifCond .ne 21, 3))) rfl jx_hNe
  · exact fun d st M Q l0 l1 l2 l3 l4 l6 l7 x => jx_ev_st (jx_fok (by decide +kernel : decode (jx_mb 63) 107 = .ok (.iload 5, 2))) rfl rfl rfl
  · exact fun d lv st M Q => jx_ev_st (jx_fok (by decide +kernel : decode (jx_mb 63) 109 = .ok (.iconst 2, 1))) rfl rfl rfl
  · exact fun d lv st M Q x z => jx_k_idiv (jx_fok (by decide +kernel : decode (jx_mb 63) 110 = .ok (.idiv, 1)))
  · exact fun d st M Q l0 l1 l2 l3 l4 l5 l6 l7 x => jx_ev_st (jx_fok (by decide +kernel : decode (jx_mb 63) 111 = .ok (.istore 5, 2))) rfl rfl rfl
  · exact fun d st M Q l0 l1 l2 l3 l4 l5 l7 x => jx_ev_st (jx_fok (by decide +kernel : decode (jx_mb 63) 113 = .ok (.iload 6, 2))) rfl rfl rfl
  · exact fun d lv st M Q => jx_ev_st (jx_fok (by decide +kernel : decode (jx_mb 63) 115 = .ok (.iconst 2, 1))) rfl rfl rfl
  · exact fun d lv st M Q x z => jx_k_idiv (jx_fok (by decide +kernel : decode (jx_mb 63) 116 = .ok (.idiv, 1)))
  · exact fun d st M Q l0 l1 l2 l3 l4 l5 l6 l7 x => jx_ev_st (jx_fok (by decide +kernel : decode (jx_mb 63) 117 = .ok (.istore 6, 2))) rfl rfl rfl
  · exact fun d st M Q l0 l1 l2 l3 l4 l5 l6 x => jx_ev_st (jx_fok (by decide +kernel : decode (jx_mb 63) 119 = .ok (.iinc 7 1, 3))) rfl rfl rfl
  · exact fun d lv st M Q => jx_k_goto (jx_fok (by decide +kernel : decode (jx_mb 63) 122 = .ok (.goto (-35), 3))) rfl
  · exact fun d st M Q l0 l1 l2 l4 l5 l6 l7 x => jx_ev_st (jx_fok (by decide +kernel : decode (jx_mb 63) 125 = .ok (.iload_n 3, 1))) rfl rfl rfl
  · exact fun d lv st M Q x => jx_k_b1n (jx_fok (by decide +kernel : decode (jx_mb 63) 126 = .ok (.ifCond .ne 9, 3))) rfl jx_hNe
  · exact fun d st M Q l0 l1 l2 l3 l4 l6 l7 x => jx_ev_st (jx_fok (by decide +kernel : decode (jx_mb 63) 129 = .ok (.iload 5, 2))) rfl rfl rfl
  · exact fun d lv st M Q x => jx_ev_st (jx_fok (by decide +kernel : decode (jx_mb 63) 131 = .ok (.i2l, 1))) rfl rfl rfl
  · exact fun d lv st M Q => jx_k_goto (jx_fok (by decide +kernel : decode (jx_mb 63) 132 = .ok (.goto 6, 3))) rfl
  · exact fun d st M Q l0 l1 l2 l3 l4 l5 l7 x => jx_ev_st (jx_fok (by decide +kernel : decode (jx_mb 63) 135 = .ok (.iload 6, 2))) rfl rfl rfl
  · exact fun d lv st M Q x => jx_ev_st (jx_fok (by decide +kernel : decode (jx_mb 63) 137 = .ok (.i2l, 1))) rfl rfl rfl
  · exact fun d lv M Q x => jx_k_rl (jx_fok (by decide +kernel : decode (jx_mb 63) 138 = .ok (.lreturn, 1))) rfl
theorem eX7_odds_52 (d : Nat) (st : List Value) (M : jx_M) (Q : jx_Po) (l0 l1 l2 l3 l4 l5 l6 : Option Value) (x : Int32) : jx_Ev d 63 52 [l0, l1, l2, l3, l4, l5, l6, some (.int x)] st M Q ↔ jx_Ev d 63 54 [l0, l1, l2, l3, l4, l5, l6, some (.int x)] (.int x :: st) M Q := jx_ev_st (jx_fok (by decide +kernel : decode (jx_mb 63) 52 = .ok (.iload 7, 2))) rfl rfl rfl
theorem eX7_odds_87 (d : Nat) (st : List Value) (M : jx_M) (Q : jx_Po) (l0 l1 l2 l3 l4 l5 l6 : Option Value) (x : Int32) : jx_Ev d 63 87 [l0, l1, l2, l3, l4, l5, l6, some (.int x)] st M Q ↔ jx_Ev d 63 89 [l0, l1, l2, l3, l4, l5, l6, some (.int x)] (.int x :: st) M Q := jx_ev_st (jx_fok (by decide +kernel : decode (jx_mb 63) 87 = .ok (.iload 7, 2))) rfl rfl rfl
theorem kX7_odds (d : Nat) (M : jx_M) (q : Int64 → jx_M → Prop) (a0 a1 a2 a3 : Value) : jx_L d 63 [a0, a1, a2, a3] M q ↔ jx_Ev d 63 0 [some a0, some a1, some a2, some a3, none, none, none, none] [] M (jx_qL q) := Iff.rfl
set_option maxRecDepth 100000 in
theorem eX7_sheet :
  (∀ (d : Nat) (st : List Value) (M : jx_M) (Q : jx_Po) (l1 l2 l3 : Option Value) (x : Nat), jx_Ev d 64 0 [some (.ref x), l1, l2, l3] st M Q ↔ jx_Ev d 64 1 [some (.ref x), l1, l2, l3] (.ref x :: st) M Q) ∧
  (∀ (d : Nat) (lv : List (Option Value)) (st : List Value) (M : jx_M) (Q : jx_Po), jx_Ev d 64 1 lv st M Q ↔ jx_Ev d 64 2 lv (.int 0 :: st) M Q) ∧
  (∀ (d : Nat) (lv : List (Option Value)) (st : List Value) (M : jx_M) (Q : jx_Po) (x : Int32), jx_Ev d 64 2 lv (.int x :: .ref 0 :: st) M Q ↔ jx_Ev d 64 5 lv st (jx_up M 0 9 x) Q) ∧
  (∀ (d : Nat) (st : List Value) (M : jx_M) (Q : jx_Po) (l0 l2 l3 : Option Value) (x : Int32), jx_Ev d 64 5 [l0, some (.int x), l2, l3] st M Q ↔ jx_Ev d 64 6 [l0, some (.int x), l2, l3] (.int x :: st) M Q) ∧
  (∀ (d : Nat) (lv : List (Option Value)) (M : jx_M) (Q : jx_Po) (a0 : Int32), jx_Ev (d + 1) 64 6 lv [.int a0] M Q ↔ jx_I d 79 [.int a0] M (fun x M => jx_Ev (d + 1) 64 9 lv (.int x :: []) M Q)) ∧
  (∀ (d : Nat) (lv : List (Option Value)) (st : List Value) (M : jx_M) (Q : jx_Po) (x : Int32), jx_Ev d 64 9 lv (.int x :: st) M Q ↔ (if x = 0 then jx_Ev d 64 12 lv st M Q else jx_Ev d 64 14 lv st M Q)) ∧
  (∀ (d : Nat) (lv : List (Option Value)) (st : List Value) (M : jx_M) (Q : jx_Po), jx_Ev d 64 12 lv st M Q ↔ jx_Ev d 64 13 lv (.int (-1) :: st) M Q) ∧
  (∀ (d : Nat) (lv : List (Option Value)) (M : jx_M) (Q : jx_Po) (x : Int32), jx_Ev d 64 13 lv [.int x] M Q ↔ Q [.int x] M) ∧
  (∀ (d : Nat) (st : List Value) (M : jx_M) (Q : jx_Po) (l0 l1 l3 : Option Value) (x : Int32), jx_Ev d 64 14 [l0, l1, some (.int x), l3] st M Q ↔ jx_Ev d 64 15 [l0, l1, some (.int x), l3] (.int x :: st) M Q) ∧
  (∀ (d : Nat) (lv : List (Option Value)) (M : jx_M) (Q : jx_Po) (a0 : Int32), jx_Ev (d + 1) 64 15 lv [.int a0] M Q ↔ jx_I d 80 [.int a0] M (fun x M => jx_Ev (d + 1) 64 18 lv (.int x :: []) M Q)) ∧
  (∀ (d : Nat) (lv : List (Option Value)) (st : List Value) (M : jx_M) (Q : jx_Po) (x : Int32), jx_Ev d 64 18 lv (.int x :: st) M Q ↔ (if x = 0 then jx_Ev d 64 27 lv st M Q else jx_Ev d 64 21 lv st M Q)) ∧
  (∀ (d : Nat) (st : List Value) (M : jx_M) (Q : jx_Po) (l0 l1 l2 : Option Value) (x : Int32), jx_Ev d 64 21 [l0, l1, l2, some (.int x)] st M Q ↔ jx_Ev d 64 22 [l0, l1, l2, some (.int x)] (.int x :: st) M Q) ∧
  (∀ (d : Nat) (lv : List (Option Value)) (st : List Value) (M : jx_M) (Q : jx_Po), jx_Ev d 64 22 lv st M Q ↔ jx_Ev d 64 24 lv (.int 60 :: st) M Q) ∧
  (∀ (d : Nat) (lv : List (Option Value)) (st : List Value) (M : jx_M) (Q : jx_Po) (x z : Int32), jx_Ev d 64 24 lv (.int z :: .int x :: st) M Q ↔ (if x ≤ z then jx_Ev d 64 30 lv st M Q else jx_Ev d 64 27 lv st M Q)) ∧
  (∀ (d : Nat) (lv : List (Option Value)) (st : List Value) (M : jx_M) (Q : jx_Po), jx_Ev d 64 27 lv st M Q ↔ jx_Ev d 64 29 lv (.int (-2) :: st) M Q) ∧
  (∀ (d : Nat) (lv : List (Option Value)) (M : jx_M) (Q : jx_Po) (x : Int32), jx_Ev d 64 29 lv [.int x] M Q ↔ Q [.int x] M) ∧
  (∀ (d : Nat) (st : List Value) (M : jx_M) (Q : jx_Po) (l0 l1 l2 : Option Value) (x : Int32), jx_Ev d 64 30 [l0, l1, l2, some (.int x)] st M Q ↔ jx_Ev d 64 31 [l0, l1, l2, some (.int x)] (.int x :: st) M Q) ∧
  (∀ (d : Nat) (lv : List (Option Value)) (st : List Value) (M : jx_M) (Q : jx_Po) (x : Int32), jx_Ev d 64 31 lv (.int x :: st) M Q ↔ (if 0 ≤ x then jx_Ev d 64 40 lv st M Q else jx_Ev d 64 34 lv st M Q)) ∧
  (∀ (d : Nat) (st : List Value) (M : jx_M) (Q : jx_Po) (l1 l2 l3 : Option Value) (x : Nat), jx_Ev d 64 34 [some (.ref x), l1, l2, l3] st M Q ↔ jx_Ev d 64 35 [some (.ref x), l1, l2, l3] (.ref x :: st) M Q) ∧
  (∀ (d : Nat) (lv : List (Option Value)) (st : List Value) (M : jx_M) (Q : jx_Po), jx_Ev d 64 35 lv st M Q ↔ jx_Ev d 64 36 lv (.int 4 :: st) M Q) ∧
  (∀ (d : Nat) (lv : List (Option Value)) (M : jx_M) (Q : jx_Po) (a0 : Int32), jx_Ev (d + 1) 64 36 lv [.int a0, .ref 0] M Q ↔ jx_I d 82 [.ref 0, .int a0] M (fun x M => jx_Ev (d + 1) 64 39 lv (.int x :: []) M Q)) ∧
  (∀ (d : Nat) (lv : List (Option Value)) (M : jx_M) (Q : jx_Po) (x : Int32), jx_Ev d 64 39 lv [.int x] M Q ↔ Q [.int x] M) ∧
  (∀ (d : Nat) (st : List Value) (M : jx_M) (Q : jx_Po) (l1 l2 l3 : Option Value) (x : Nat), jx_Ev d 64 40 [some (.ref x), l1, l2, l3] st M Q ↔ jx_Ev d 64 41 [some (.ref x), l1, l2, l3] (.ref x :: st) M Q) ∧
  (∀ (d : Nat) (lv : List (Option Value)) (st : List Value) (M : jx_M) (Q : jx_Po), jx_Ev d 64 41 lv (.ref 0 :: st) M Q ↔ jx_Ev d 64 44 lv (.ref 1 :: st) M Q) ∧
  (∀ (d : Nat) (st : List Value) (M : jx_M) (Q : jx_Po) (l0 l2 l3 : Option Value) (x : Int32), jx_Ev d 64 44 [l0, some (.int x), l2, l3] st M Q ↔ jx_Ev d 64 45 [l0, some (.int x), l2, l3] (.int x :: st) M Q) ∧
  (∀ (d : Nat) (lv : List (Option Value)) (st : List Value) (M : jx_M) (Q : jx_Po) (x : Int32), jx_Ev d 64 45 lv (.int x :: .ref 1 :: st) M Q ↔ (vp_in x 4 ∧ jx_Ev d 64 46 lv (.ref (jx_sp x) :: st) M Q)) ∧
  (∀ (d : Nat) (st : List Value) (M : jx_M) (Q : jx_Po) (l0 l1 l3 : Option Value) (x : Int32), jx_Ev d 64 46 [l0, l1, some (.int x), l3] st M Q ↔ jx_Ev d 64 47 [l0, l1, some (.int x), l3] (.int x :: st) M Q) ∧
  (∀ (d : Nat) (st : List Value) (M : jx_M) (Q : jx_Po) (l0 l1 l2 : Option Value) (x : Int32), jx_Ev d 64 47 [l0, l1, l2, some (.int x)] st M Q ↔ jx_Ev d 64 48 [l0, l1, l2, some (.int x)] (.int x :: st) M Q) ∧
  (∀ (d : Nat) (lv : List (Option Value)) (M : jx_M) (Q : jx_Po) (a0 : Int32) (a1 : Int32) (a2 : Nat) (hk : jx_cl a2 = 4), jx_Ev (d + 1) 64 48 lv [.int a0, .int a1, .ref a2] M Q ↔ jx_V d 20 [.ref a2, .int a1, .int a0] M (fun M => jx_Ev (d + 1) 64 51 lv [] M Q)) ∧
  (∀ (d : Nat) (lv : List (Option Value)) (st : List Value) (M : jx_M) (Q : jx_Po), jx_Ev d 64 51 lv st M Q ↔ jx_Ev d 64 52 lv (.int 1 :: st) M Q) ∧
  (∀ (d : Nat) (lv : List (Option Value)) (M : jx_M) (Q : jx_Po) (x : Int32), jx_Ev d 64 52 lv [.int x] M Q ↔ Q [.int x] M) := by
  refine ⟨?_, ?_, ?_, ?_, ?_, ?_, ?_, ?_, ?_, ?_, ?_, ?_, ?_, ?_, ?_, ?_, ?_, ?_, ?_, ?_, ?_, ?_, ?_, ?_, ?_, ?_, ?_, ?_, ?_, ?_, ?_⟩
  · exact fun d st M Q l1 l2 l3 x => jx_ev_st (jx_fok (by decide +kernel : decode (jx_mb 64) 0 = .ok (.aload_n 0, 1))) rfl rfl rfl
  · exact fun d lv st M Q => jx_ev_st (jx_fok (by decide +kernel : decode (jx_mb 64) 1 = .ok (.iconst 0, 1))) rfl rfl rfl
  · exact fun d lv st M Q x => jx_k_pf0 (jx_fok (by decide +kernel : decode (jx_mb 64) 2 = .ok (.putfield 66, 3))) rfl rfl rfl
  · exact fun d st M Q l0 l2 l3 x => jx_ev_st (jx_fok (by decide +kernel : decode (jx_mb 64) 5 = .ok (.iload_n 1, 1))) rfl rfl rfl
  · exact fun d lv M Q a0 => jx_ev_ci (jx_fok (by decide +kernel : decode (jx_mb 64) 6 = .ok (.invokestatic 70, 3))) rfl (jx_ccS (As := [.int a0]) (rest := []) rfl rfl rfl rfl rfl) (by decide)
  · exact fun d lv st M Q x => jx_k_b1n (jx_fok (by decide +kernel : decode (jx_mb 64) 9 = .ok (.ifCond .ne 5, 3))) rfl jx_hNe
  · exact fun d lv st M Q => jx_ev_st (jx_fok (by decide +kernel : decode (jx_mb 64) 12 = .ok (.iconst (-1), 1))) rfl rfl rfl
  · exact fun d lv M Q x => jx_k_ri (jx_fok (by decide +kernel : decode (jx_mb 64) 13 = .ok (.ireturn, 1))) rfl
  · exact fun d st M Q l0 l1 l3 x => jx_ev_st (jx_fok (by decide +kernel : decode (jx_mb 64) 14 = .ok (.iload_n 2, 1))) rfl rfl rfl
  · exact fun d lv M Q a0 => jx_ev_ci (jx_fok (by decide +kernel : decode (jx_mb 64) 15 = .ok (.invokestatic 74, 3))) rfl (jx_ccS (As := [.int a0]) (rest := []) rfl rfl rfl rfl rfl) (by decide)
  · exact fun d lv st M Q x => jx_k_b1 (jx_fok (by decide +kernel : decode (jx_mb 64) 18 = .ok (.ifCond .eq 9, 3))) rfl jx_hEq
  · exact fun d st M Q l0 l1 l2 x => jx_ev_st (jx_fok (by decide +kernel : decode (jx_mb 64) 21 = .ok (.iload_n 3, 1))) rfl rfl rfl
  · exact fun d lv st M Q => jx_ev_st (jx_fok (by decide +kernel : decode (jx_mb 64) 22 = .ok (.bipush 60, 2))) rfl rfl rfl
  · exact fun d lv st M Q x z => jx_k_b2 (jx_fok (by decide +kernel : decode (jx_mb 64) 24 = .ok (.if_icmp .le 6, 3))) rfl jx_hLe
  · exact fun d lv st M Q => jx_ev_st (jx_fok (by decide +kernel : decode (jx_mb 64) 27 = .ok (.bipush (-2), 2))) rfl rfl rfl
  · exact fun d lv M Q x => jx_k_ri (jx_fok (by decide +kernel : decode (jx_mb 64) 29 = .ok (.ireturn, 1))) rfl
  · exact fun d st M Q l0 l1 l2 x => jx_ev_st (jx_fok (by decide +kernel : decode (jx_mb 64) 30 = .ok (.iload_n 3, 1))) rfl rfl rfl
  · exact fun d lv st M Q x => jx_k_b1 (jx_fok (by decide +kernel : decode (jx_mb 64) 31 = .ok (.ifCond .ge 9, 3))) rfl jx_hGe
  · exact fun d st M Q l1 l2 l3 x => jx_ev_st (jx_fok (by decide +kernel : decode (jx_mb 64) 34 = .ok (.aload_n 0, 1))) rfl rfl rfl
  · exact fun d lv st M Q => jx_ev_st (jx_fok (by decide +kernel : decode (jx_mb 64) 35 = .ok (.iconst 4, 1))) rfl rfl rfl
  · exact fun d lv M Q a0 => jx_ev_ci (jx_fok (by decide +kernel : decode (jx_mb 64) 36 = .ok (.invokevirtual 81, 3))) rfl (jx_ccV (As := [.int a0]) (rest := []) rfl rfl rfl rfl rfl rfl) (by decide)
  · exact fun d lv M Q x => jx_k_ri (jx_fok (by decide +kernel : decode (jx_mb 64) 39 = .ok (.ireturn, 1))) rfl
  · exact fun d st M Q l1 l2 l3 x => jx_ev_st (jx_fok (by decide +kernel : decode (jx_mb 64) 40 = .ok (.aload_n 0, 1))) rfl rfl rfl
  · exact fun d lv st M Q => jx_k_gf (jx_fok (by decide +kernel : decode (jx_mb 64) 41 = .ok (.getfield 13, 3))) rfl rfl rfl
  · exact fun d st M Q l0 l2 l3 x => jx_ev_st (jx_fok (by decide +kernel : decode (jx_mb 64) 44 = .ok (.iload_n 1, 1))) rfl rfl rfl
  · exact fun d lv st M Q x => jx_k_aa (jx_fok (by decide +kernel : decode (jx_mb 64) 45 = .ok (.aaload, 1)))
  · exact fun d st M Q l0 l1 l3 x => jx_ev_st (jx_fok (by decide +kernel : decode (jx_mb 64) 46 = .ok (.iload_n 2, 1))) rfl rfl rfl
  · exact fun d st M Q l0 l1 l2 x => jx_ev_st (jx_fok (by decide +kernel : decode (jx_mb 64) 47 = .ok (.iload_n 3, 1))) rfl rfl rfl
  · exact fun d lv M Q a0 a1 a2 hk => jx_ev_cv (jx_fok (by decide +kernel : decode (jx_mb 64) 48 = .ok (.invokevirtual 205, 3))) rfl (jx_ccV (As := [.int a1, .int a0]) (rest := []) rfl rfl rfl hk rfl rfl) rfl
  · exact fun d lv st M Q => jx_ev_st (jx_fok (by decide +kernel : decode (jx_mb 64) 51 = .ok (.iconst 1, 1))) rfl rfl rfl
  · exact fun d lv M Q x => jx_k_ri (jx_fok (by decide +kernel : decode (jx_mb 64) 52 = .ok (.ireturn, 1))) rfl
theorem kX7_sheet (d : Nat) (M : jx_M) (q : Int32 → jx_M → Prop) (a0 a1 a2 a3 : Value) : jx_I d 64 [a0, a1, a2, a3] M q ↔ jx_Ev d 64 0 [some a0, some a1, some a2, some a3] [] M (jx_qI q) := Iff.rfl
set_option maxRecDepth 100000 in
theorem eX7_lose :
  (∀ (d : Nat) (st : List Value) (M : jx_M) (Q : jx_Po) (l0 l2 : Option Value) (x : Int32), jx_Ev d 65 0 [l0, some (.int x), l2] st M Q ↔ jx_Ev d 65 1 [l0, some (.int x), l2] (.int x :: st) M Q) ∧
  (∀ (d : Nat) (lv : List (Option Value)) (M : jx_M) (Q : jx_Po) (a0 : Int32), jx_Ev (d + 1) 65 1 lv [.int a0] M Q ↔ jx_I d 79 [.int a0] M (fun x M => jx_Ev (d + 1) 65 4 lv (.int x :: []) M Q)) ∧
  (∀ (d : Nat) (lv : List (Option Value)) (st : List Value) (M : jx_M) (Q : jx_Po) (x : Int32), jx_Ev d 65 4 lv (.int x :: st) M Q ↔ (if x = 0 then jx_Ev d 65 7 lv st M Q else jx_Ev d 65 9 lv st M Q)) ∧
  (∀ (d : Nat) (lv : List (Option Value)) (st : List Value) (M : jx_M) (Q : jx_Po), jx_Ev d 65 7 lv st M Q ↔ jx_Ev d 65 8 lv (.int (-1) :: st) M Q) ∧
  (∀ (d : Nat) (lv : List (Option Value)) (M : jx_M) (Q : jx_Po) (x : Int32), jx_Ev d 65 8 lv [.int x] M Q ↔ Q [.int x] M) ∧
  (∀ (d : Nat) (st : List Value) (M : jx_M) (Q : jx_Po) (l1 l2 : Option Value) (x : Nat), jx_Ev d 65 9 [some (.ref x), l1, l2] st M Q ↔ jx_Ev d 65 10 [some (.ref x), l1, l2] (.ref x :: st) M Q) ∧
  (∀ (d : Nat) (lv : List (Option Value)) (st : List Value) (M : jx_M) (Q : jx_Po), jx_Ev d 65 10 lv (.ref 0 :: st) M Q ↔ jx_Ev d 65 13 lv (.ref 1 :: st) M Q) ∧
  (∀ (d : Nat) (st : List Value) (M : jx_M) (Q : jx_Po) (l0 l2 : Option Value) (x : Int32), jx_Ev d 65 13 [l0, some (.int x), l2] st M Q ↔ jx_Ev d 65 14 [l0, some (.int x), l2] (.int x :: st) M Q) ∧
  (∀ (d : Nat) (lv : List (Option Value)) (st : List Value) (M : jx_M) (Q : jx_Po) (x : Int32), jx_Ev d 65 14 lv (.int x :: .ref 1 :: st) M Q ↔ (vp_in x 4 ∧ jx_Ev d 65 15 lv (.ref (jx_sp x) :: st) M Q)) ∧
  (∀ (d : Nat) (lv : List (Option Value)) (st : List Value) (M : jx_M) (Q : jx_Po) (k : Nat) (hk : jx_cl k = 4), jx_Ev d 65 15 lv (.ref k :: st) M Q ↔ jx_Ev d 65 18 lv (.int (M k 3) :: st) M Q) ∧
  (∀ (d : Nat) (lv : List (Option Value)) (st : List Value) (M : jx_M) (Q : jx_Po) (x : Int32), jx_Ev d 65 18 lv (.int x :: st) M Q ↔ (if x = 0 then jx_Ev d 65 25 lv st M Q else jx_Ev d 65 21 lv st M Q)) ∧
  (∀ (d : Nat) (lv : List (Option Value)) (st : List Value) (M : jx_M) (Q : jx_Po), jx_Ev d 65 21 lv st M Q ↔ jx_Ev d 65 22 lv (.int 1 :: st) M Q) ∧
  (∀ (d : Nat) (lv : List (Option Value)) (st : List Value) (M : jx_M) (Q : jx_Po), jx_Ev d 65 22 lv st M Q ↔ jx_Ev d 65 26 lv st M Q) ∧
  (∀ (d : Nat) (lv : List (Option Value)) (st : List Value) (M : jx_M) (Q : jx_Po), jx_Ev d 65 25 lv st M Q ↔ jx_Ev d 65 26 lv (.int 0 :: st) M Q) ∧
  (∀ (d : Nat) (st : List Value) (M : jx_M) (Q : jx_Po) (l0 l1 l2 : Option Value) (x : Int32), jx_Ev d 65 26 [l0, l1, l2] (.int x :: st) M Q ↔ jx_Ev d 65 27 [l0, l1, some (.int x)] st M Q) ∧
  (∀ (d : Nat) (st : List Value) (M : jx_M) (Q : jx_Po) (l1 l2 : Option Value) (x : Nat), jx_Ev d 65 27 [some (.ref x), l1, l2] st M Q ↔ jx_Ev d 65 28 [some (.ref x), l1, l2] (.ref x :: st) M Q) ∧
  (∀ (d : Nat) (lv : List (Option Value)) (st : List Value) (M : jx_M) (Q : jx_Po), jx_Ev d 65 28 lv (.ref 0 :: st) M Q ↔ jx_Ev d 65 31 lv (.ref 1 :: st) M Q) ∧
  (∀ (d : Nat) (st : List Value) (M : jx_M) (Q : jx_Po) (l0 l2 : Option Value) (x : Int32), jx_Ev d 65 31 [l0, some (.int x), l2] st M Q ↔ jx_Ev d 65 32 [l0, some (.int x), l2] (.int x :: st) M Q) ∧
  (∀ (d : Nat) (lv : List (Option Value)) (st : List Value) (M : jx_M) (Q : jx_Po) (x : Int32), jx_Ev d 65 32 lv (.int x :: .ref 1 :: st) M Q ↔ (vp_in x 4 ∧ jx_Ev d 65 33 lv (.ref (jx_sp x) :: st) M Q)) ∧
  (∀ (d : Nat) (lv : List (Option Value)) (st : List Value) (M : jx_M) (Q : jx_Po), jx_Ev d 65 33 lv st M Q ↔ jx_Ev d 65 34 lv (.int 0 :: st) M Q) ∧
  (∀ (d : Nat) (lv : List (Option Value)) (st : List Value) (M : jx_M) (Q : jx_Po) (x : Int32) (k : Nat) (hk : jx_cl k = 4), jx_Ev d 65 34 lv (.int x :: .ref k :: st) M Q ↔ ((x = 0 ∨ x = 1) ∧ jx_Ev d 65 37 lv st (jx_up M k 3 x) Q)) ∧
  (∀ (d : Nat) (st : List Value) (M : jx_M) (Q : jx_Po) (l0 l1 : Option Value) (x : Int32), jx_Ev d 65 37 [l0, l1, some (.int x)] st M Q ↔ jx_Ev d 65 38 [l0, l1, some (.int x)] (.int x :: st) M Q) ∧
  (∀ (d : Nat) (lv : List (Option Value)) (M : jx_M) (Q : jx_Po) (x : Int32), jx_Ev d 65 38 lv [.int x] M Q ↔ Q [.int x] M) := by
  refine ⟨?_, ?_, ?_, ?_, ?_, ?_, ?_, ?_, ?_, ?_, ?_, ?_, ?_, ?_, ?_, ?_, ?_, ?_, ?_, ?_, ?_, ?_, ?_⟩
  · exact fun d st M Q l0 l2 x => jx_ev_st (jx_fok (by decide +kernel : decode (jx_mb 65) 0 = .ok (.iload_n 1, 1))) rfl rfl rfl
  · exact fun d lv M Q a0 => jx_ev_ci (jx_fok (by decide +kernel : decode (jx_mb 65) 1 = .ok (.invokestatic 70, 3))) rfl (jx_ccS (As := [.int a0]) (rest := []) rfl rfl rfl rfl rfl) (by decide)
  · exact fun d lv st M Q x => jx_k_b1n (jx_fok (by decide +kernel : decode (jx_mb 65) 4 = .ok (.ifCond .ne 5, 3))) rfl jx_hNe
  · exact fun d lv st M Q => jx_ev_st (jx_fok (by decide +kernel : decode (jx_mb 65) 7 = .ok (.iconst (-1), 1))) rfl rfl rfl
  · exact fun d lv M Q x => jx_k_ri (jx_fok (by decide +kernel : decode (jx_mb 65) 8 = .ok (.ireturn, 1))) rfl
  · exact fun d st M Q l1 l2 x => jx_ev_st (jx_fok (by decide +kernel : decode (jx_mb 65) 9 = .ok (.aload_n 0, 1))) rfl rfl rfl
  · exact fun d lv st M Q => jx_k_gf (jx_fok (by decide +kernel : decode (jx_mb 65) 10 = .ok (.getfield 13, 3))) rfl rfl rfl
  · exact fun d st M Q l0 l2 x => jx_ev_st (jx_fok (by decide +kernel : decode (jx_mb 65) 13 = .ok (.iload_n 1, 1))) rfl rfl rfl
  · exact fun d lv st M Q x => jx_k_aa (jx_fok (by decide +kernel : decode (jx_mb 65) 14 = .ok (.aaload, 1)))
  · exact fun d lv st M Q k hk => jx_k_gf (jx_fok (by decide +kernel : decode (jx_mb 65) 15 = .ok (.getfield 209, 3))) rfl hk rfl
  · exact fun d lv st M Q x => jx_k_b1 (jx_fok (by decide +kernel : decode (jx_mb 65) 18 = .ok (.ifCond .eq 7, 3))) rfl jx_hEq
  · exact fun d lv st M Q => jx_ev_st (jx_fok (by decide +kernel : decode (jx_mb 65) 21 = .ok (.iconst 1, 1))) rfl rfl rfl
  · exact fun d lv st M Q => jx_k_goto (jx_fok (by decide +kernel : decode (jx_mb 65) 22 = .ok (.goto 4, 3))) rfl
  · exact fun d lv st M Q => jx_ev_st (jx_fok (by decide +kernel : decode (jx_mb 65) 25 = .ok (.iconst 0, 1))) rfl rfl rfl
  · exact fun d st M Q l0 l1 l2 x => jx_ev_st (jx_fok (by decide +kernel : decode (jx_mb 65) 26 = .ok (.istore_n 2, 1))) rfl rfl rfl
  · exact fun d st M Q l1 l2 x => jx_ev_st (jx_fok (by decide +kernel : decode (jx_mb 65) 27 = .ok (.aload_n 0, 1))) rfl rfl rfl
  · exact fun d lv st M Q => jx_k_gf (jx_fok (by decide +kernel : decode (jx_mb 65) 28 = .ok (.getfield 13, 3))) rfl rfl rfl
  · exact fun d st M Q l0 l2 x => jx_ev_st (jx_fok (by decide +kernel : decode (jx_mb 65) 31 = .ok (.iload_n 1, 1))) rfl rfl rfl
  · exact fun d lv st M Q x => jx_k_aa (jx_fok (by decide +kernel : decode (jx_mb 65) 32 = .ok (.aaload, 1)))
  · exact fun d lv st M Q => jx_ev_st (jx_fok (by decide +kernel : decode (jx_mb 65) 33 = .ok (.iconst 0, 1))) rfl rfl rfl
  · exact fun d lv st M Q x k hk => jx_k_pf1 (jx_fok (by decide +kernel : decode (jx_mb 65) 34 = .ok (.putfield 209, 3))) rfl hk rfl
  · exact fun d st M Q l0 l1 x => jx_ev_st (jx_fok (by decide +kernel : decode (jx_mb 65) 37 = .ok (.iload_n 2, 1))) rfl rfl rfl
  · exact fun d lv M Q x => jx_k_ri (jx_fok (by decide +kernel : decode (jx_mb 65) 38 = .ok (.ireturn, 1))) rfl
theorem kX7_lose (d : Nat) (M : jx_M) (q : Int32 → jx_M → Prop) (a0 a1 : Value) : jx_I d 65 [a0, a1] M q ↔ jx_Ev d 65 0 [some a0, some a1, none] [] M (jx_qI q) := Iff.rfl
set_option maxRecDepth 100000 in
theorem eX7_put :
  (∀ (d : Nat) (st : List Value) (M : jx_M) (Q : jx_Po) (l1 l2 l3 : Option Value) (x : Nat), jx_Ev d 66 0 [some (.ref x), l1, l2, l3] st M Q ↔ jx_Ev d 66 1 [some (.ref x), l1, l2, l3] (.ref x :: st) M Q) ∧
  (∀ (d : Nat) (lv : List (Option Value)) (st : List Value) (M : jx_M) (Q : jx_Po), jx_Ev d 66 1 lv st M Q ↔ jx_Ev d 66 2 lv (.int 0 :: st) M Q) ∧
  (∀ (d : Nat) (lv : List (Option Value)) (st : List Value) (M : jx_M) (Q : jx_Po) (x : Int32), jx_Ev d 66 2 lv (.int x :: .ref 0 :: st) M Q ↔ jx_Ev d 66 5 lv st (jx_up M 0 9 x) Q) ∧
  (∀ (d : Nat) (st : List Value) (M : jx_M) (Q : jx_Po) (l0 l2 l3 : Option Value) (x : Int32), jx_Ev d 66 5 [l0, some (.int x), l2, l3] st M Q ↔ jx_Ev d 66 6 [l0, some (.int x), l2, l3] (.int x :: st) M Q) ∧
  (∀ (d : Nat) (lv : List (Option Value)) (M : jx_M) (Q : jx_Po) (a0 : Int32), jx_Ev (d + 1) 66 6 lv [.int a0] M Q ↔ jx_I d 79 [.int a0] M (fun x M => jx_Ev (d + 1) 66 9 lv (.int x :: []) M Q)) ∧
  (∀ (d : Nat) (lv : List (Option Value)) (st : List Value) (M : jx_M) (Q : jx_Po) (x : Int32), jx_Ev d 66 9 lv (.int x :: st) M Q ↔ (if x = 0 then jx_Ev d 66 12 lv st M Q else jx_Ev d 66 14 lv st M Q)) ∧
  (∀ (d : Nat) (lv : List (Option Value)) (st : List Value) (M : jx_M) (Q : jx_Po), jx_Ev d 66 12 lv st M Q ↔ jx_Ev d 66 13 lv (.int (-1) :: st) M Q) ∧
  (∀ (d : Nat) (lv : List (Option Value)) (M : jx_M) (Q : jx_Po) (x : Int32), jx_Ev d 66 13 lv [.int x] M Q ↔ Q [.int x] M) ∧
  (∀ (d : Nat) (st : List Value) (M : jx_M) (Q : jx_Po) (l1 l2 l3 : Option Value) (x : Nat), jx_Ev d 66 14 [some (.ref x), l1, l2, l3] st M Q ↔ jx_Ev d 66 15 [some (.ref x), l1, l2, l3] (.ref x :: st) M Q) ∧
  (∀ (d : Nat) (lv : List (Option Value)) (st : List Value) (M : jx_M) (Q : jx_Po), jx_Ev d 66 15 lv (.ref 0 :: st) M Q ↔ jx_Ev d 66 18 lv (.ref 1 :: st) M Q) ∧
  (∀ (d : Nat) (st : List Value) (M : jx_M) (Q : jx_Po) (l0 l2 l3 : Option Value) (x : Int32), jx_Ev d 66 18 [l0, some (.int x), l2, l3] st M Q ↔ jx_Ev d 66 19 [l0, some (.int x), l2, l3] (.int x :: st) M Q) ∧
  (∀ (d : Nat) (lv : List (Option Value)) (st : List Value) (M : jx_M) (Q : jx_Po) (x : Int32), jx_Ev d 66 19 lv (.int x :: .ref 1 :: st) M Q ↔ (vp_in x 4 ∧ jx_Ev d 66 20 lv (.ref (jx_sp x) :: st) M Q)) ∧
  (∀ (d : Nat) (lv : List (Option Value)) (st : List Value) (M : jx_M) (Q : jx_Po) (k : Nat) (hk : jx_cl k = 4), jx_Ev d 66 20 lv (.ref k :: st) M Q ↔ jx_Ev d 66 23 lv (.int (M k 3) :: st) M Q) ∧
  (∀ (d : Nat) (lv : List (Option Value)) (st : List Value) (M : jx_M) (Q : jx_Po) (x : Int32), jx_Ev d 66 23 lv (.int x :: st) M Q ↔ (if x = 0 then jx_Ev d 66 26 lv st M Q else jx_Ev d 66 32 lv st M Q)) ∧
  (∀ (d : Nat) (st : List Value) (M : jx_M) (Q : jx_Po) (l1 l2 l3 : Option Value) (x : Nat), jx_Ev d 66 26 [some (.ref x), l1, l2, l3] st M Q ↔ jx_Ev d 66 27 [some (.ref x), l1, l2, l3] (.ref x :: st) M Q) ∧
  (∀ (d : Nat) (lv : List (Option Value)) (st : List Value) (M : jx_M) (Q : jx_Po), jx_Ev d 66 27 lv st M Q ↔ jx_Ev d 66 28 lv (.int 1 :: st) M Q) ∧
  (∀ (d : Nat) (lv : List (Option Value)) (M : jx_M) (Q : jx_Po) (a0 : Int32), jx_Ev (d + 1) 66 28 lv [.int a0, .ref 0] M Q ↔ jx_I d 82 [.ref 0, .int a0] M (fun x M => jx_Ev (d + 1) 66 31 lv (.int x :: []) M Q)) ∧
  (∀ (d : Nat) (lv : List (Option Value)) (M : jx_M) (Q : jx_Po) (x : Int32), jx_Ev d 66 31 lv [.int x] M Q ↔ Q [.int x] M) ∧
  (∀ (d : Nat) (st : List Value) (M : jx_M) (Q : jx_Po) (l1 l2 l3 : Option Value) (x : Nat), jx_Ev d 66 32 [some (.ref x), l1, l2, l3] st M Q ↔ jx_Ev d 66 33 [some (.ref x), l1, l2, l3] (.ref x :: st) M Q) ∧
  (∀ (d : Nat) (lv : List (Option Value)) (st : List Value) (M : jx_M) (Q : jx_Po), jx_Ev d 66 33 lv (.ref 0 :: st) M Q ↔ jx_Ev d 66 36 lv (.ref 1 :: st) M Q) ∧
  (∀ (d : Nat) (st : List Value) (M : jx_M) (Q : jx_Po) (l0 l2 l3 : Option Value) (x : Int32), jx_Ev d 66 36 [l0, some (.int x), l2, l3] st M Q ↔ jx_Ev d 66 37 [l0, some (.int x), l2, l3] (.int x :: st) M Q) ∧
  (∀ (d : Nat) (lv : List (Option Value)) (st : List Value) (M : jx_M) (Q : jx_Po) (x : Int32), jx_Ev d 66 37 lv (.int x :: .ref 1 :: st) M Q ↔ (vp_in x 4 ∧ jx_Ev d 66 38 lv (.ref (jx_sp x) :: st) M Q)) ∧
  (∀ (d : Nat) (st : List Value) (M : jx_M) (Q : jx_Po) (l0 l1 l3 : Option Value) (x : Int32), jx_Ev d 66 38 [l0, l1, some (.int x), l3] st M Q ↔ jx_Ev d 66 39 [l0, l1, some (.int x), l3] (.int x :: st) M Q) ∧
  (∀ (d : Nat) (lv : List (Option Value)) (st : List Value) (M : jx_M) (Q : jx_Po), jx_Ev d 66 39 lv st M Q ↔ jx_Ev d 66 40 lv (.int 1 :: st) M Q) ∧
  (∀ (d : Nat) (lv : List (Option Value)) (M : jx_M) (Q : jx_Po) (a0 : Int32) (a1 : Int32) (a2 : Nat) (hk : jx_cl a2 = 4), jx_Ev (d + 1) 66 40 lv [.int a0, .int a1, .ref a2] M Q ↔ jx_I d 21 [.ref a2, .int a1, .int a0] M (fun x M => jx_Ev (d + 1) 66 43 lv (.int x :: []) M Q)) ∧
  (∀ (d : Nat) (lv : List (Option Value)) (st : List Value) (M : jx_M) (Q : jx_Po) (x : Int32), jx_Ev d 66 43 lv (.int x :: st) M Q ↔ (if x = 0 then jx_Ev d 66 46 lv st M Q else jx_Ev d 66 52 lv st M Q)) ∧
  (∀ (d : Nat) (st : List Value) (M : jx_M) (Q : jx_Po) (l1 l2 l3 : Option Value) (x : Nat), jx_Ev d 66 46 [some (.ref x), l1, l2, l3] st M Q ↔ jx_Ev d 66 47 [some (.ref x), l1, l2, l3] (.ref x :: st) M Q) ∧
  (∀ (d : Nat) (lv : List (Option Value)) (st : List Value) (M : jx_M) (Q : jx_Po), jx_Ev d 66 47 lv st M Q ↔ jx_Ev d 66 48 lv (.int 3 :: st) M Q) ∧
  (∀ (d : Nat) (lv : List (Option Value)) (M : jx_M) (Q : jx_Po) (a0 : Int32), jx_Ev (d + 1) 66 48 lv [.int a0, .ref 0] M Q ↔ jx_I d 82 [.ref 0, .int a0] M (fun x M => jx_Ev (d + 1) 66 51 lv (.int x :: []) M Q)) ∧
  (∀ (d : Nat) (lv : List (Option Value)) (M : jx_M) (Q : jx_Po) (x : Int32), jx_Ev d 66 51 lv [.int x] M Q ↔ Q [.int x] M) ∧
  (∀ (d : Nat) (st : List Value) (M : jx_M) (Q : jx_Po) (l1 l2 l3 : Option Value) (x : Nat), jx_Ev d 66 52 [some (.ref x), l1, l2, l3] st M Q ↔ jx_Ev d 66 53 [some (.ref x), l1, l2, l3] (.ref x :: st) M Q) ∧
  (∀ (d : Nat) (lv : List (Option Value)) (st : List Value) (M : jx_M) (Q : jx_Po), jx_Ev d 66 53 lv (.ref 0 :: st) M Q ↔ jx_Ev d 66 56 lv (.ref 1 :: st) M Q) ∧
  (∀ (d : Nat) (st : List Value) (M : jx_M) (Q : jx_Po) (l0 l2 l3 : Option Value) (x : Int32), jx_Ev d 66 56 [l0, some (.int x), l2, l3] st M Q ↔ jx_Ev d 66 57 [l0, some (.int x), l2, l3] (.int x :: st) M Q) ∧
  (∀ (d : Nat) (lv : List (Option Value)) (st : List Value) (M : jx_M) (Q : jx_Po) (x : Int32), jx_Ev d 66 57 lv (.int x :: .ref 1 :: st) M Q ↔ (vp_in x 4 ∧ jx_Ev d 66 58 lv (.ref (jx_sp x) :: st) M Q)) ∧
  (∀ (d : Nat) (st : List Value) (M : jx_M) (Q : jx_Po) (l0 l1 l3 : Option Value) (x : Int32), jx_Ev d 66 58 [l0, l1, some (.int x), l3] st M Q ↔ jx_Ev d 66 59 [l0, l1, some (.int x), l3] (.int x :: st) M Q) ∧
  (∀ (d : Nat) (st : List Value) (M : jx_M) (Q : jx_Po) (l0 l1 l2 : Option Value) (x : Int32), jx_Ev d 66 59 [l0, l1, l2, some (.int x)] st M Q ↔ jx_Ev d 66 60 [l0, l1, l2, some (.int x)] (.int x :: st) M Q) ∧
  (∀ (d : Nat) (lv : List (Option Value)) (M : jx_M) (Q : jx_Po) (a0 : Int32) (a1 : Int32) (a2 : Nat) (hk : jx_cl a2 = 4), jx_Ev (d + 1) 66 60 lv [.int a0, .int a1, .ref a2] M Q ↔ jx_V d 24 [.ref a2, .int a1, .int a0] M (fun M => jx_Ev (d + 1) 66 63 lv [] M Q)) ∧
  (∀ (d : Nat) (lv : List (Option Value)) (st : List Value) (M : jx_M) (Q : jx_Po), jx_Ev d 66 63 lv st M Q ↔ jx_Ev d 66 64 lv (.int 1 :: st) M Q) ∧
  (∀ (d : Nat) (lv : List (Option Value)) (M : jx_M) (Q : jx_Po) (x : Int32), jx_Ev d 66 64 lv [.int x] M Q ↔ Q [.int x] M) := by
  refine ⟨?_, ?_, ?_, ?_, ?_, ?_, ?_, ?_, ?_, ?_, ?_, ?_, ?_, ?_, ?_, ?_, ?_, ?_, ?_, ?_, ?_, ?_, ?_, ?_, ?_, ?_, ?_, ?_, ?_, ?_, ?_, ?_, ?_, ?_, ?_, ?_, ?_, ?_, ?_⟩
  · exact fun d st M Q l1 l2 l3 x => jx_ev_st (jx_fok (by decide +kernel : decode (jx_mb 66) 0 = .ok (.aload_n 0, 1))) rfl rfl rfl
  · exact fun d lv st M Q => jx_ev_st (jx_fok (by decide +kernel : decode (jx_mb 66) 1 = .ok (.iconst 0, 1))) rfl rfl rfl
  · exact fun d lv st M Q x => jx_k_pf0 (jx_fok (by decide +kernel : decode (jx_mb 66) 2 = .ok (.putfield 66, 3))) rfl rfl rfl
  · exact fun d st M Q l0 l2 l3 x => jx_ev_st (jx_fok (by decide +kernel : decode (jx_mb 66) 5 = .ok (.iload_n 1, 1))) rfl rfl rfl
  · exact fun d lv M Q a0 => jx_ev_ci (jx_fok (by decide +kernel : decode (jx_mb 66) 6 = .ok (.invokestatic 70, 3))) rfl (jx_ccS (As := [.int a0]) (rest := []) rfl rfl rfl rfl rfl) (by decide)
  · exact fun d lv st M Q x => jx_k_b1n (jx_fok (by decide +kernel : decode (jx_mb 66) 9 = .ok (.ifCond .ne 5, 3))) rfl jx_hNe
  · exact fun d lv st M Q => jx_ev_st (jx_fok (by decide +kernel : decode (jx_mb 66) 12 = .ok (.iconst (-1), 1))) rfl rfl rfl
  · exact fun d lv M Q x => jx_k_ri (jx_fok (by decide +kernel : decode (jx_mb 66) 13 = .ok (.ireturn, 1))) rfl
  · exact fun d st M Q l1 l2 l3 x => jx_ev_st (jx_fok (by decide +kernel : decode (jx_mb 66) 14 = .ok (.aload_n 0, 1))) rfl rfl rfl
  · exact fun d lv st M Q => jx_k_gf (jx_fok (by decide +kernel : decode (jx_mb 66) 15 = .ok (.getfield 13, 3))) rfl rfl rfl
  · exact fun d st M Q l0 l2 l3 x => jx_ev_st (jx_fok (by decide +kernel : decode (jx_mb 66) 18 = .ok (.iload_n 1, 1))) rfl rfl rfl
  · exact fun d lv st M Q x => jx_k_aa (jx_fok (by decide +kernel : decode (jx_mb 66) 19 = .ok (.aaload, 1)))
  · exact fun d lv st M Q k hk => jx_k_gf (jx_fok (by decide +kernel : decode (jx_mb 66) 20 = .ok (.getfield 209, 3))) rfl hk rfl
  · exact fun d lv st M Q x => jx_k_b1n (jx_fok (by decide +kernel : decode (jx_mb 66) 23 = .ok (.ifCond .ne 9, 3))) rfl jx_hNe
  · exact fun d st M Q l1 l2 l3 x => jx_ev_st (jx_fok (by decide +kernel : decode (jx_mb 66) 26 = .ok (.aload_n 0, 1))) rfl rfl rfl
  · exact fun d lv st M Q => jx_ev_st (jx_fok (by decide +kernel : decode (jx_mb 66) 27 = .ok (.iconst 1, 1))) rfl rfl rfl
  · exact fun d lv M Q a0 => jx_ev_ci (jx_fok (by decide +kernel : decode (jx_mb 66) 28 = .ok (.invokevirtual 81, 3))) rfl (jx_ccV (As := [.int a0]) (rest := []) rfl rfl rfl rfl rfl rfl) (by decide)
  · exact fun d lv M Q x => jx_k_ri (jx_fok (by decide +kernel : decode (jx_mb 66) 31 = .ok (.ireturn, 1))) rfl
  · exact fun d st M Q l1 l2 l3 x => jx_ev_st (jx_fok (by decide +kernel : decode (jx_mb 66) 32 = .ok (.aload_n 0, 1))) rfl rfl rfl
  · exact fun d lv st M Q => jx_k_gf (jx_fok (by decide +kernel : decode (jx_mb 66) 33 = .ok (.getfield 13, 3))) rfl rfl rfl
  · exact fun d st M Q l0 l2 l3 x => jx_ev_st (jx_fok (by decide +kernel : decode (jx_mb 66) 36 = .ok (.iload_n 1, 1))) rfl rfl rfl
  · exact fun d lv st M Q x => jx_k_aa (jx_fok (by decide +kernel : decode (jx_mb 66) 37 = .ok (.aaload, 1)))
  · exact fun d st M Q l0 l1 l3 x => jx_ev_st (jx_fok (by decide +kernel : decode (jx_mb 66) 38 = .ok (.iload_n 2, 1))) rfl rfl rfl
  · exact fun d lv st M Q => jx_ev_st (jx_fok (by decide +kernel : decode (jx_mb 66) 39 = .ok (.iconst 1, 1))) rfl rfl rfl
  · exact fun d lv M Q a0 a1 a2 hk => jx_ev_ci (jx_fok (by decide +kernel : decode (jx_mb 66) 40 = .ok (.invokevirtual 213, 3))) rfl (jx_ccV (As := [.int a1, .int a0]) (rest := []) rfl rfl rfl hk rfl rfl) (by decide)
  · exact fun d lv st M Q x => jx_k_b1n (jx_fok (by decide +kernel : decode (jx_mb 66) 43 = .ok (.ifCond .ne 9, 3))) rfl jx_hNe
  · exact fun d st M Q l1 l2 l3 x => jx_ev_st (jx_fok (by decide +kernel : decode (jx_mb 66) 46 = .ok (.aload_n 0, 1))) rfl rfl rfl
  · exact fun d lv st M Q => jx_ev_st (jx_fok (by decide +kernel : decode (jx_mb 66) 47 = .ok (.iconst 3, 1))) rfl rfl rfl
  · exact fun d lv M Q a0 => jx_ev_ci (jx_fok (by decide +kernel : decode (jx_mb 66) 48 = .ok (.invokevirtual 81, 3))) rfl (jx_ccV (As := [.int a0]) (rest := []) rfl rfl rfl rfl rfl rfl) (by decide)
  · exact fun d lv M Q x => jx_k_ri (jx_fok (by decide +kernel : decode (jx_mb 66) 51 = .ok (.ireturn, 1))) rfl
  · exact fun d st M Q l1 l2 l3 x => jx_ev_st (jx_fok (by decide +kernel : decode (jx_mb 66) 52 = .ok (.aload_n 0, 1))) rfl rfl rfl
  · exact fun d lv st M Q => jx_k_gf (jx_fok (by decide +kernel : decode (jx_mb 66) 53 = .ok (.getfield 13, 3))) rfl rfl rfl
  · exact fun d st M Q l0 l2 l3 x => jx_ev_st (jx_fok (by decide +kernel : decode (jx_mb 66) 56 = .ok (.iload_n 1, 1))) rfl rfl rfl
  · exact fun d lv st M Q x => jx_k_aa (jx_fok (by decide +kernel : decode (jx_mb 66) 57 = .ok (.aaload, 1)))
  · exact fun d st M Q l0 l1 l3 x => jx_ev_st (jx_fok (by decide +kernel : decode (jx_mb 66) 58 = .ok (.iload_n 2, 1))) rfl rfl rfl
  · exact fun d st M Q l0 l1 l2 x => jx_ev_st (jx_fok (by decide +kernel : decode (jx_mb 66) 59 = .ok (.iload_n 3, 1))) rfl rfl rfl
  · exact fun d lv M Q a0 a1 a2 hk => jx_ev_cv (jx_fok (by decide +kernel : decode (jx_mb 66) 60 = .ok (.invokevirtual 216, 3))) rfl (jx_ccV (As := [.int a1, .int a0]) (rest := []) rfl rfl rfl hk rfl rfl) rfl
  · exact fun d lv st M Q => jx_ev_st (jx_fok (by decide +kernel : decode (jx_mb 66) 63 = .ok (.iconst 1, 1))) rfl rfl rfl
  · exact fun d lv M Q x => jx_k_ri (jx_fok (by decide +kernel : decode (jx_mb 66) 64 = .ok (.ireturn, 1))) rfl
theorem kX7_put (d : Nat) (M : jx_M) (q : Int32 → jx_M → Prop) (a0 a1 a2 a3 : Value) : jx_I d 66 [a0, a1, a2, a3] M q ↔ jx_Ev d 66 0 [some a0, some a1, some a2, some a3] [] M (jx_qI q) := Iff.rfl
set_option maxRecDepth 100000 in
theorem eX7_cell :
  (∀ (d : Nat) (st : List Value) (M : jx_M) (Q : jx_Po) (l1 l2 l3 : Option Value) (x : Nat), jx_Ev d 67 0 [some (.ref x), l1, l2, l3] st M Q ↔ jx_Ev d 67 1 [some (.ref x), l1, l2, l3] (.ref x :: st) M Q) ∧
  (∀ (d : Nat) (lv : List (Option Value)) (st : List Value) (M : jx_M) (Q : jx_Po), jx_Ev d 67 1 lv st M Q ↔ jx_Ev d 67 2 lv (.int 0 :: st) M Q) ∧
  (∀ (d : Nat) (lv : List (Option Value)) (st : List Value) (M : jx_M) (Q : jx_Po) (x : Int32), jx_Ev d 67 2 lv (.int x :: .ref 0 :: st) M Q ↔ jx_Ev d 67 5 lv st (jx_up M 0 9 x) Q) ∧
  (∀ (d : Nat) (st : List Value) (M : jx_M) (Q : jx_Po) (l0 l2 l3 : Option Value) (x : Int32), jx_Ev d 67 5 [l0, some (.int x), l2, l3] st M Q ↔ jx_Ev d 67 6 [l0, some (.int x), l2, l3] (.int x :: st) M Q) ∧
  (∀ (d : Nat) (lv : List (Option Value)) (M : jx_M) (Q : jx_Po) (a0 : Int32), jx_Ev (d + 1) 67 6 lv [.int a0] M Q ↔ jx_I d 79 [.int a0] M (fun x M => jx_Ev (d + 1) 67 9 lv (.int x :: []) M Q)) ∧
  (∀ (d : Nat) (lv : List (Option Value)) (st : List Value) (M : jx_M) (Q : jx_Po) (x : Int32), jx_Ev d 67 9 lv (.int x :: st) M Q ↔ (if x = 0 then jx_Ev d 67 19 lv st M Q else jx_Ev d 67 12 lv st M Q)) ∧
  (∀ (d : Nat) (st : List Value) (M : jx_M) (Q : jx_Po) (l0 l1 l2 : Option Value) (x : Int32), jx_Ev d 67 12 [l0, l1, l2, some (.int x)] st M Q ↔ jx_Ev d 67 13 [l0, l1, l2, some (.int x)] (.int x :: st) M Q) ∧
  (∀ (d : Nat) (lv : List (Option Value)) (M : jx_M) (Q : jx_Po) (a0 : Int32), jx_Ev (d + 1) 67 13 lv [.int a0] M Q ↔ jx_I d 80 [.int a0] M (fun x M => jx_Ev (d + 1) 67 16 lv (.int x :: []) M Q)) ∧
  (∀ (d : Nat) (lv : List (Option Value)) (st : List Value) (M : jx_M) (Q : jx_Po) (x : Int32), jx_Ev d 67 16 lv (.int x :: st) M Q ↔ (if x = 0 then jx_Ev d 67 19 lv st M Q else jx_Ev d 67 23 lv st M Q)) ∧
  (∀ (d : Nat) (lv : List (Option Value)) (st : List Value) (M : jx_M) (Q : jx_Po), jx_Ev d 67 19 lv st M Q ↔ jx_Ev d 67 22 lv (.long (-9223372036854775808) :: st) M Q) ∧
  (∀ (d : Nat) (lv : List (Option Value)) (M : jx_M) (Q : jx_Po) (x : Int64), jx_Ev d 67 22 lv [.long x] M Q ↔ Q [.long x] M) ∧
  (∀ (d : Nat) (st : List Value) (M : jx_M) (Q : jx_Po) (l1 l2 l3 : Option Value) (x : Nat), jx_Ev d 67 23 [some (.ref x), l1, l2, l3] st M Q ↔ jx_Ev d 67 24 [some (.ref x), l1, l2, l3] (.ref x :: st) M Q) ∧
  (∀ (d : Nat) (st : List Value) (M : jx_M) (Q : jx_Po) (l1 l2 l3 : Option Value) (x : Nat), jx_Ev d 67 24 [some (.ref x), l1, l2, l3] st M Q ↔ jx_Ev d 67 25 [some (.ref x), l1, l2, l3] (.ref x :: st) M Q) ∧
  (∀ (d : Nat) (lv : List (Option Value)) (st : List Value) (M : jx_M) (Q : jx_Po), jx_Ev d 67 25 lv (.ref 0 :: st) M Q ↔ jx_Ev d 67 28 lv (.ref 1 :: st) M Q) ∧
  (∀ (d : Nat) (st : List Value) (M : jx_M) (Q : jx_Po) (l0 l2 l3 : Option Value) (x : Int32), jx_Ev d 67 28 [l0, some (.int x), l2, l3] st M Q ↔ jx_Ev d 67 29 [l0, some (.int x), l2, l3] (.int x :: st) M Q) ∧
  (∀ (d : Nat) (lv : List (Option Value)) (st : List Value) (M : jx_M) (Q : jx_Po) (x : Int32), jx_Ev d 67 29 lv (.int x :: .ref 1 :: st) M Q ↔ (vp_in x 4 ∧ jx_Ev d 67 30 lv (.ref (jx_sp x) :: st) M Q)) ∧
  (∀ (d : Nat) (st : List Value) (M : jx_M) (Q : jx_Po) (l0 l1 l2 : Option Value) (x : Int32), jx_Ev d 67 30 [l0, l1, l2, some (.int x)] st M Q ↔ jx_Ev d 67 31 [l0, l1, l2, some (.int x)] (.int x :: st) M Q) ∧
  (∀ (d : Nat) (st : List Value) (M : jx_M) (Q : jx_Po) (l0 l1 l3 : Option Value) (x : Int32), jx_Ev d 67 31 [l0, l1, some (.int x), l3] st M Q ↔ jx_Ev d 67 32 [l0, l1, some (.int x), l3] (.int x :: st) M Q) ∧
  (∀ (d : Nat) (lv : List (Option Value)) (st : List Value) (M : jx_M) (Q : jx_Po), jx_Ev d 67 32 lv st M Q ↔ jx_Ev d 67 33 lv (.int 1 :: st) M Q) ∧
  (∀ (d : Nat) (lv : List (Option Value)) (M : jx_M) (Q : jx_Po) (a0 : Int32) (a1 : Int32) (a2 : Int32) (a3 : Nat) (a4 : Nat) (hk : jx_cl a3 = 4), jx_Ev (d + 1) 67 33 lv [.int a0, .int a1, .int a2, .ref a3, .ref a4] M Q ↔ jx_I d 22 [.ref a3, .int a2, .int a1, .int a0] M (fun x M => jx_Ev (d + 1) 67 36 lv (.int x :: [.ref a4]) M Q)) ∧
  (∀ (d : Nat) (lv : List (Option Value)) (st : List Value) (M : jx_M) (Q : jx_Po) (x : Int32), jx_Ev d 67 36 lv (.int x :: .ref 0 :: st) M Q ↔ jx_Ev d 67 39 lv st (jx_up M 0 9 x) Q) ∧
  (∀ (d : Nat) (st : List Value) (M : jx_M) (Q : jx_Po) (l1 l2 l3 : Option Value) (x : Nat), jx_Ev d 67 39 [some (.ref x), l1, l2, l3] st M Q ↔ jx_Ev d 67 40 [some (.ref x), l1, l2, l3] (.ref x :: st) M Q) ∧
  (∀ (d : Nat) (lv : List (Option Value)) (st : List Value) (M : jx_M) (Q : jx_Po), jx_Ev d 67 40 lv (.ref 0 :: st) M Q ↔ jx_Ev d 67 43 lv (.int (M 0 9) :: st) M Q) ∧
  (∀ (d : Nat) (lv : List (Option Value)) (st : List Value) (M : jx_M) (Q : jx_Po) (x : Int32), jx_Ev d 67 43 lv (.int x :: st) M Q ↔ (if x = 0 then jx_Ev d 67 46 lv st M Q else jx_Ev d 67 60 lv st M Q)) ∧
  (∀ (d : Nat) (st : List Value) (M : jx_M) (Q : jx_Po) (l1 l2 l3 : Option Value) (x : Nat), jx_Ev d 67 46 [some (.ref x), l1, l2, l3] st M Q ↔ jx_Ev d 67 47 [some (.ref x), l1, l2, l3] (.ref x :: st) M Q) ∧
  (∀ (d : Nat) (lv : List (Option Value)) (st : List Value) (M : jx_M) (Q : jx_Po), jx_Ev d 67 47 lv (.ref 0 :: st) M Q ↔ jx_Ev d 67 50 lv (.ref 1 :: st) M Q) ∧
  (∀ (d : Nat) (st : List Value) (M : jx_M) (Q : jx_Po) (l0 l2 l3 : Option Value) (x : Int32), jx_Ev d 67 50 [l0, some (.int x), l2, l3] st M Q ↔ jx_Ev d 67 51 [l0, some (.int x), l2, l3] (.int x :: st) M Q) ∧
  (∀ (d : Nat) (lv : List (Option Value)) (st : List Value) (M : jx_M) (Q : jx_Po) (x : Int32), jx_Ev d 67 51 lv (.int x :: .ref 1 :: st) M Q ↔ (vp_in x 4 ∧ jx_Ev d 67 52 lv (.ref (jx_sp x) :: st) M Q)) ∧
  (∀ (d : Nat) (st : List Value) (M : jx_M) (Q : jx_Po) (l0 l1 l3 : Option Value) (x : Int32), jx_Ev d 67 52 [l0, l1, some (.int x), l3] st M Q ↔ jx_Ev d 67 53 [l0, l1, some (.int x), l3] (.int x :: st) M Q) ∧
  (∀ (d : Nat) (lv : List (Option Value)) (M : jx_M) (Q : jx_Po) (a0 : Int32) (a1 : Nat) (hk : jx_cl a1 = 4), jx_Ev (d + 1) 67 53 lv [.int a0, .ref a1] M Q ↔ jx_I d 23 [.ref a1, .int a0] M (fun x M => jx_Ev (d + 1) 67 56 lv (.int x :: []) M Q)) ∧
  (∀ (d : Nat) (lv : List (Option Value)) (st : List Value) (M : jx_M) (Q : jx_Po) (x : Int32), jx_Ev d 67 56 lv (.int x :: st) M Q ↔ jx_Ev d 67 57 lv (.long x.toInt64 :: st) M Q) ∧
  (∀ (d : Nat) (lv : List (Option Value)) (st : List Value) (M : jx_M) (Q : jx_Po), jx_Ev d 67 57 lv st M Q ↔ jx_Ev d 67 63 lv st M Q) ∧
  (∀ (d : Nat) (lv : List (Option Value)) (st : List Value) (M : jx_M) (Q : jx_Po), jx_Ev d 67 60 lv st M Q ↔ jx_Ev d 67 63 lv (.long (-9223372036854775808) :: st) M Q) ∧
  (∀ (d : Nat) (lv : List (Option Value)) (M : jx_M) (Q : jx_Po) (x : Int64), jx_Ev d 67 63 lv [.long x] M Q ↔ Q [.long x] M) := by
  refine ⟨?_, ?_, ?_, ?_, ?_, ?_, ?_, ?_, ?_, ?_, ?_, ?_, ?_, ?_, ?_, ?_, ?_, ?_, ?_, ?_, ?_, ?_, ?_, ?_, ?_, ?_, ?_, ?_, ?_, ?_, ?_, ?_, ?_, ?_⟩
  · exact fun d st M Q l1 l2 l3 x => jx_ev_st (jx_fok (by decide +kernel : decode (jx_mb 67) 0 = .ok (.aload_n 0, 1))) rfl rfl rfl
  · exact fun d lv st M Q => jx_ev_st (jx_fok (by decide +kernel : decode (jx_mb 67) 1 = .ok (.iconst 0, 1))) rfl rfl rfl
  · exact fun d lv st M Q x => jx_k_pf0 (jx_fok (by decide +kernel : decode (jx_mb 67) 2 = .ok (.putfield 66, 3))) rfl rfl rfl
  · exact fun d st M Q l0 l2 l3 x => jx_ev_st (jx_fok (by decide +kernel : decode (jx_mb 67) 5 = .ok (.iload_n 1, 1))) rfl rfl rfl
  · exact fun d lv M Q a0 => jx_ev_ci (jx_fok (by decide +kernel : decode (jx_mb 67) 6 = .ok (.invokestatic 70, 3))) rfl (jx_ccS (As := [.int a0]) (rest := []) rfl rfl rfl rfl rfl) (by decide)
  · exact fun d lv st M Q x => jx_k_b1 (jx_fok (by decide +kernel : decode (jx_mb 67) 9 = .ok (.ifCond .eq 10, 3))) rfl jx_hEq
  · exact fun d st M Q l0 l1 l2 x => jx_ev_st (jx_fok (by decide +kernel : decode (jx_mb 67) 12 = .ok (.iload_n 3, 1))) rfl rfl rfl
  · exact fun d lv M Q a0 => jx_ev_ci (jx_fok (by decide +kernel : decode (jx_mb 67) 13 = .ok (.invokestatic 74, 3))) rfl (jx_ccS (As := [.int a0]) (rest := []) rfl rfl rfl rfl rfl) (by decide)
  · exact fun d lv st M Q x => jx_k_b1n (jx_fok (by decide +kernel : decode (jx_mb 67) 16 = .ok (.ifCond .ne 7, 3))) rfl jx_hNe
  · exact fun d lv st M Q => jx_ev_st (jx_fok (by decide +kernel : decode (jx_mb 67) 19 = .ok (.ldc2_w 203, 3))) rfl rfl rfl
  · exact fun d lv M Q x => jx_k_rl (jx_fok (by decide +kernel : decode (jx_mb 67) 22 = .ok (.lreturn, 1))) rfl
  · exact fun d st M Q l1 l2 l3 x => jx_ev_st (jx_fok (by decide +kernel : decode (jx_mb 67) 23 = .ok (.aload_n 0, 1))) rfl rfl rfl
  · exact fun d st M Q l1 l2 l3 x => jx_ev_st (jx_fok (by decide +kernel : decode (jx_mb 67) 24 = .ok (.aload_n 0, 1))) rfl rfl rfl
  · exact fun d lv st M Q => jx_k_gf (jx_fok (by decide +kernel : decode (jx_mb 67) 25 = .ok (.getfield 13, 3))) rfl rfl rfl
  · exact fun d st M Q l0 l2 l3 x => jx_ev_st (jx_fok (by decide +kernel : decode (jx_mb 67) 28 = .ok (.iload_n 1, 1))) rfl rfl rfl
  · exact fun d lv st M Q x => jx_k_aa (jx_fok (by decide +kernel : decode (jx_mb 67) 29 = .ok (.aaload, 1)))
  · exact fun d st M Q l0 l1 l2 x => jx_ev_st (jx_fok (by decide +kernel : decode (jx_mb 67) 30 = .ok (.iload_n 3, 1))) rfl rfl rfl
  · exact fun d st M Q l0 l1 l3 x => jx_ev_st (jx_fok (by decide +kernel : decode (jx_mb 67) 31 = .ok (.iload_n 2, 1))) rfl rfl rfl
  · exact fun d lv st M Q => jx_ev_st (jx_fok (by decide +kernel : decode (jx_mb 67) 32 = .ok (.iconst 1, 1))) rfl rfl rfl
  · exact fun d lv M Q a0 a1 a2 a3 a4 hk => jx_ev_ci (jx_fok (by decide +kernel : decode (jx_mb 67) 33 = .ok (.invokevirtual 77, 3))) rfl (jx_ccV (As := [.int a2, .int a1, .int a0]) (rest := [.ref a4]) rfl rfl rfl hk rfl rfl) (by decide)
  · exact fun d lv st M Q x => jx_k_pf0 (jx_fok (by decide +kernel : decode (jx_mb 67) 36 = .ok (.putfield 66, 3))) rfl rfl rfl
  · exact fun d st M Q l1 l2 l3 x => jx_ev_st (jx_fok (by decide +kernel : decode (jx_mb 67) 39 = .ok (.aload_n 0, 1))) rfl rfl rfl
  · exact fun d lv st M Q => jx_k_gf (jx_fok (by decide +kernel : decode (jx_mb 67) 40 = .ok (.getfield 66, 3))) rfl rfl rfl
  · exact fun d lv st M Q x => jx_k_b1n (jx_fok (by decide +kernel : decode (jx_mb 67) 43 = .ok (.ifCond .ne 17, 3))) rfl jx_hNe
  · exact fun d st M Q l1 l2 l3 x => jx_ev_st (jx_fok (by decide +kernel : decode (jx_mb 67) 46 = .ok (.aload_n 0, 1))) rfl rfl rfl
  · exact fun d lv st M Q => jx_k_gf (jx_fok (by decide +kernel : decode (jx_mb 67) 47 = .ok (.getfield 13, 3))) rfl rfl rfl
  · exact fun d st M Q l0 l2 l3 x => jx_ev_st (jx_fok (by decide +kernel : decode (jx_mb 67) 50 = .ok (.iload_n 1, 1))) rfl rfl rfl
  · exact fun d lv st M Q x => jx_k_aa (jx_fok (by decide +kernel : decode (jx_mb 67) 51 = .ok (.aaload, 1)))
  · exact fun d st M Q l0 l1 l3 x => jx_ev_st (jx_fok (by decide +kernel : decode (jx_mb 67) 52 = .ok (.iload_n 2, 1))) rfl rfl rfl
  · exact fun d lv M Q a0 a1 hk => jx_ev_ci (jx_fok (by decide +kernel : decode (jx_mb 67) 53 = .ok (.invokevirtual 219, 3))) rfl (jx_ccV (As := [.int a0]) (rest := []) rfl rfl rfl hk rfl rfl) (by decide)
  · exact fun d lv st M Q x => jx_ev_st (jx_fok (by decide +kernel : decode (jx_mb 67) 56 = .ok (.i2l, 1))) rfl rfl rfl
  · exact fun d lv st M Q => jx_k_goto (jx_fok (by decide +kernel : decode (jx_mb 67) 57 = .ok (.goto 6, 3))) rfl
  · exact fun d lv st M Q => jx_ev_st (jx_fok (by decide +kernel : decode (jx_mb 67) 60 = .ok (.ldc2_w 203, 3))) rfl rfl rfl
  · exact fun d lv M Q x => jx_k_rl (jx_fok (by decide +kernel : decode (jx_mb 67) 63 = .ok (.lreturn, 1))) rfl
theorem kX7_cell (d : Nat) (M : jx_M) (q : Int64 → jx_M → Prop) (a0 a1 a2 a3 : Value) : jx_L d 67 [a0, a1, a2, a3] M q ↔ jx_Ev d 67 0 [some a0, some a1, some a2, some a3] [] M (jx_qL q) := Iff.rfl
set_option maxRecDepth 100000 in
theorem eX7_copy :
  (∀ (d : Nat) (st : List Value) (M : jx_M) (Q : jx_Po) (l1 l2 l3 l4 l5 l6 l7 : Option Value) (x : Nat), jx_Ev d 68 0 [some (.ref x), l1, l2, l3, l4, l5, l6, l7] st M Q ↔ jx_Ev d 68 1 [some (.ref x), l1, l2, l3, l4, l5, l6, l7] (.ref x :: st) M Q) ∧
  (∀ (d : Nat) (lv : List (Option Value)) (st : List Value) (M : jx_M) (Q : jx_Po), jx_Ev d 68 1 lv st M Q ↔ jx_Ev d 68 2 lv (.int 0 :: st) M Q) ∧
  (∀ (d : Nat) (lv : List (Option Value)) (st : List Value) (M : jx_M) (Q : jx_Po) (x : Int32), jx_Ev d 68 2 lv (.int x :: .ref 0 :: st) M Q ↔ jx_Ev d 68 5 lv st (jx_up M 0 9 x) Q) ∧
  (∀ (d : Nat) (st : List Value) (M : jx_M) (Q : jx_Po) (l0 l2 l3 l4 l5 l6 l7 : Option Value) (x : Int32), jx_Ev d 68 5 [l0, some (.int x), l2, l3, l4, l5, l6, l7] st M Q ↔ jx_Ev d 68 6 [l0, some (.int x), l2, l3, l4, l5, l6, l7] (.int x :: st) M Q) ∧
  (∀ (d : Nat) (lv : List (Option Value)) (M : jx_M) (Q : jx_Po) (a0 : Int32), jx_Ev (d + 1) 68 6 lv [.int a0] M Q ↔ jx_I d 79 [.int a0] M (fun x M => jx_Ev (d + 1) 68 9 lv (.int x :: []) M Q)) ∧
  (∀ (d : Nat) (lv : List (Option Value)) (st : List Value) (M : jx_M) (Q : jx_Po) (x : Int32), jx_Ev d 68 9 lv (.int x :: st) M Q ↔ (if x = 0 then jx_Ev d 68 19 lv st M Q else jx_Ev d 68 12 lv st M Q)) ∧
  (∀ (d : Nat) (st : List Value) (M : jx_M) (Q : jx_Po) (l0 l1 l2 l4 l5 l6 l7 : Option Value) (x : Int32), jx_Ev d 68 12 [l0, l1, l2, some (.int x), l4, l5, l6, l7] st M Q ↔ jx_Ev d 68 13 [l0, l1, l2, some (.int x), l4, l5, l6, l7] (.int x :: st) M Q) ∧
  (∀ (d : Nat) (lv : List (Option Value)) (M : jx_M) (Q : jx_Po) (a0 : Int32), jx_Ev (d + 1) 68 13 lv [.int a0] M Q ↔ jx_I d 79 [.int a0] M (fun x M => jx_Ev (d + 1) 68 16 lv (.int x :: []) M Q)) ∧
  (∀ (d : Nat) (lv : List (Option Value)) (st : List Value) (M : jx_M) (Q : jx_Po) (x : Int32), jx_Ev d 68 16 lv (.int x :: st) M Q ↔ (if x = 0 then jx_Ev d 68 19 lv st M Q else jx_Ev d 68 21 lv st M Q)) ∧
  (∀ (d : Nat) (lv : List (Option Value)) (st : List Value) (M : jx_M) (Q : jx_Po), jx_Ev d 68 19 lv st M Q ↔ jx_Ev d 68 20 lv (.int (-1) :: st) M Q) ∧
  (∀ (d : Nat) (lv : List (Option Value)) (M : jx_M) (Q : jx_Po) (x : Int32), jx_Ev d 68 20 lv [.int x] M Q ↔ Q [.int x] M) ∧
  (∀ (d : Nat) (st : List Value) (M : jx_M) (Q : jx_Po) (l1 l2 l3 l4 l5 l6 l7 : Option Value) (x : Nat), jx_Ev d 68 21 [some (.ref x), l1, l2, l3, l4, l5, l6, l7] st M Q ↔ jx_Ev d 68 22 [some (.ref x), l1, l2, l3, l4, l5, l6, l7] (.ref x :: st) M Q) ∧
  (∀ (d : Nat) (lv : List (Option Value)) (st : List Value) (M : jx_M) (Q : jx_Po), jx_Ev d 68 22 lv (.ref 0 :: st) M Q ↔ jx_Ev d 68 25 lv (.ref 1 :: st) M Q) ∧
  (∀ (d : Nat) (st : List Value) (M : jx_M) (Q : jx_Po) (l0 l2 l3 l4 l5 l6 l7 : Option Value) (x : Int32), jx_Ev d 68 25 [l0, some (.int x), l2, l3, l4, l5, l6, l7] st M Q ↔ jx_Ev d 68 26 [l0, some (.int x), l2, l3, l4, l5, l6, l7] (.int x :: st) M Q) ∧
  (∀ (d : Nat) (lv : List (Option Value)) (st : List Value) (M : jx_M) (Q : jx_Po) (x : Int32), jx_Ev d 68 26 lv (.int x :: .ref 1 :: st) M Q ↔ (vp_in x 4 ∧ jx_Ev d 68 27 lv (.ref (jx_sp x) :: st) M Q)) ∧
  (∀ (d : Nat) (st : List Value) (M : jx_M) (Q : jx_Po) (l0 l1 l2 l3 l4 l5 l6 l7 : Option Value) (x : Nat), jx_Ev d 68 27 [l0, l1, l2, l3, l4, l5, l6, l7] (.ref x :: st) M Q ↔ jx_Ev d 68 29 [l0, l1, l2, l3, l4, l5, some (.ref x), l7] st M Q) ∧
  (∀ (d : Nat) (st : List Value) (M : jx_M) (Q : jx_Po) (l1 l2 l3 l4 l5 l6 l7 : Option Value) (x : Nat), jx_Ev d 68 29 [some (.ref x), l1, l2, l3, l4, l5, l6, l7] st M Q ↔ jx_Ev d 68 30 [some (.ref x), l1, l2, l3, l4, l5, l6, l7] (.ref x :: st) M Q) ∧
  (∀ (d : Nat) (lv : List (Option Value)) (st : List Value) (M : jx_M) (Q : jx_Po), jx_Ev d 68 30 lv (.ref 0 :: st) M Q ↔ jx_Ev d 68 33 lv (.ref 1 :: st) M Q) ∧
  (∀ (d : Nat) (st : List Value) (M : jx_M) (Q : jx_Po) (l0 l1 l2 l4 l5 l6 l7 : Option Value) (x : Int32), jx_Ev d 68 33 [l0, l1, l2, some (.int x), l4, l5, l6, l7] st M Q ↔ jx_Ev d 68 34 [l0, l1, l2, some (.int x), l4, l5, l6, l7] (.int x :: st) M Q) ∧
  (∀ (d : Nat) (lv : List (Option Value)) (st : List Value) (M : jx_M) (Q : jx_Po) (x : Int32), jx_Ev d 68 34 lv (.int x :: .ref 1 :: st) M Q ↔ (vp_in x 4 ∧ jx_Ev d 68 35 lv (.ref (jx_sp x) :: st) M Q)) ∧
  (∀ (d : Nat) (st : List Value) (M : jx_M) (Q : jx_Po) (l0 l1 l2 l3 l4 l5 l6 l7 : Option Value) (x : Nat), jx_Ev d 68 35 [l0, l1, l2, l3, l4, l5, l6, l7] (.ref x :: st) M Q ↔ jx_Ev d 68 37 [l0, l1, l2, l3, l4, l5, l6, some (.ref x)] st M Q) ∧
  (∀ (d : Nat) (st : List Value) (M : jx_M) (Q : jx_Po) (l0 l1 l2 l3 l4 l5 l7 : Option Value) (x : Nat), jx_Ev d 68 37 [l0, l1, l2, l3, l4, l5, some (.ref x), l7] st M Q ↔ jx_Ev d 68 39 [l0, l1, l2, l3, l4, l5, some (.ref x), l7] (.ref x :: st) M Q) ∧
  (∀ (d : Nat) (lv : List (Option Value)) (st : List Value) (M : jx_M) (Q : jx_Po) (k : Nat) (hk : jx_cl k = 4), jx_Ev d 68 39 lv (.ref k :: st) M Q ↔ jx_Ev d 68 42 lv (.int (M k 3) :: st) M Q) ∧
  (∀ (d : Nat) (lv : List (Option Value)) (st : List Value) (M : jx_M) (Q : jx_Po) (x : Int32), jx_Ev d 68 42 lv (.int x :: st) M Q ↔ (if x = 0 then jx_Ev d 68 53 lv st M Q else jx_Ev d 68 45 lv st M Q)) ∧
  (∀ (d : Nat) (st : List Value) (M : jx_M) (Q : jx_Po) (l0 l1 l2 l3 l4 l5 l6 : Option Value) (x : Nat), jx_Ev d 68 45 [l0, l1, l2, l3, l4, l5, l6, some (.ref x)] st M Q ↔ jx_Ev d 68 47 [l0, l1, l2, l3, l4, l5, l6, some (.ref x)] (.ref x :: st) M Q) ∧
  (∀ (d : Nat) (lv : List (Option Value)) (st : List Value) (M : jx_M) (Q : jx_Po) (k : Nat) (hk : jx_cl k = 4), jx_Ev d 68 47 lv (.ref k :: st) M Q ↔ jx_Ev d 68 50 lv (.int (M k 3) :: st) M Q) ∧
  (∀ (d : Nat) (lv : List (Option Value)) (st : List Value) (M : jx_M) (Q : jx_Po) (x : Int32), jx_Ev d 68 50 lv (.int x :: st) M Q ↔ (if x = 0 then jx_Ev d 68 53 lv st M Q else jx_Ev d 68 59 lv st M Q)) ∧
  (∀ (d : Nat) (st : List Value) (M : jx_M) (Q : jx_Po) (l1 l2 l3 l4 l5 l6 l7 : Option Value) (x : Nat), jx_Ev d 68 53 [some (.ref x), l1, l2, l3, l4, l5, l6, l7] st M Q ↔ jx_Ev d 68 54 [some (.ref x), l1, l2, l3, l4, l5, l6, l7] (.ref x :: st) M Q) ∧
  (∀ (d : Nat) (lv : List (Option Value)) (st : List Value) (M : jx_M) (Q : jx_Po), jx_Ev d 68 54 lv st M Q ↔ jx_Ev d 68 55 lv (.int 1 :: st) M Q) ∧
  (∀ (d : Nat) (lv : List (Option Value)) (M : jx_M) (Q : jx_Po) (a0 : Int32), jx_Ev (d + 1) 68 55 lv [.int a0, .ref 0] M Q ↔ jx_I d 82 [.ref 0, .int a0] M (fun x M => jx_Ev (d + 1) 68 58 lv (.int x :: []) M Q)) ∧
  (∀ (d : Nat) (lv : List (Option Value)) (M : jx_M) (Q : jx_Po) (x : Int32), jx_Ev d 68 58 lv [.int x] M Q ↔ Q [.int x] M) ∧
  (∀ (d : Nat) (st : List Value) (M : jx_M) (Q : jx_Po) (l0 l1 l2 l3 l4 l5 l7 : Option Value) (x : Nat), jx_Ev d 68 59 [l0, l1, l2, l3, l4, l5, some (.ref x), l7] st M Q ↔ jx_Ev d 68 61 [l0, l1, l2, l3, l4, l5, some (.ref x), l7] (.ref x :: st) M Q) ∧
  (∀ (d : Nat) (lv : List (Option Value)) (st : List Value) (M : jx_M) (Q : jx_Po) (k : Nat) (hk : jx_cl k = 4), jx_Ev d 68 61 lv (.ref k :: st) M Q ↔ jx_Ev d 68 64 lv (.int (M k 1) :: st) M Q) ∧
  (∀ (d : Nat) (st : List Value) (M : jx_M) (Q : jx_Po) (l0 l1 l2 l3 l4 l5 l6 : Option Value) (x : Nat), jx_Ev d 68 64 [l0, l1, l2, l3, l4, l5, l6, some (.ref x)] st M Q ↔ jx_Ev d 68 66 [l0, l1, l2, l3, l4, l5, l6, some (.ref x)] (.ref x :: st) M Q) ∧
  (∀ (d : Nat) (lv : List (Option Value)) (st : List Value) (M : jx_M) (Q : jx_Po) (k : Nat) (hk : jx_cl k = 4), jx_Ev d 68 66 lv (.ref k :: st) M Q ↔ jx_Ev d 68 69 lv (.int (M k 1) :: st) M Q) ∧
  (∀ (d : Nat) (lv : List (Option Value)) (st : List Value) (M : jx_M) (Q : jx_Po) (x z : Int32), jx_Ev d 68 69 lv (.int z :: .int x :: st) M Q ↔ (if x = z then jx_Ev d 68 78 lv st M Q else jx_Ev d 68 72 lv st M Q)) ∧
  (∀ (d : Nat) (st : List Value) (M : jx_M) (Q : jx_Po) (l1 l2 l3 l4 l5 l6 l7 : Option Value) (x : Nat), jx_Ev d 68 72 [some (.ref x), l1, l2, l3, l4, l5, l6, l7] st M Q ↔ jx_Ev d 68 73 [some (.ref x), l1, l2, l3, l4, l5, l6, l7] (.ref x :: st) M Q) ∧
  (∀ (d : Nat) (lv : List (Option Value)) (st : List Value) (M : jx_M) (Q : jx_Po), jx_Ev d 68 73 lv st M Q ↔ jx_Ev d 68 74 lv (.int 2 :: st) M Q) ∧
  (∀ (d : Nat) (lv : List (Option Value)) (M : jx_M) (Q : jx_Po) (a0 : Int32), jx_Ev (d + 1) 68 74 lv [.int a0, .ref 0] M Q ↔ jx_I d 82 [.ref 0, .int a0] M (fun x M => jx_Ev (d + 1) 68 77 lv (.int x :: []) M Q)) ∧
  (∀ (d : Nat) (lv : List (Option Value)) (M : jx_M) (Q : jx_Po) (x : Int32), jx_Ev d 68 77 lv [.int x] M Q ↔ Q [.int x] M) ∧
  (∀ (d : Nat) (st : List Value) (M : jx_M) (Q : jx_Po) (l0 l1 l2 l3 l4 l5 l7 : Option Value) (x : Nat), jx_Ev d 68 78 [l0, l1, l2, l3, l4, l5, some (.ref x), l7] st M Q ↔ jx_Ev d 68 80 [l0, l1, l2, l3, l4, l5, some (.ref x), l7] (.ref x :: st) M Q) ∧
  (∀ (d : Nat) (st : List Value) (M : jx_M) (Q : jx_Po) (l0 l1 l3 l4 l5 l6 l7 : Option Value) (x : Int32), jx_Ev d 68 80 [l0, l1, some (.int x), l3, l4, l5, l6, l7] st M Q ↔ jx_Ev d 68 81 [l0, l1, some (.int x), l3, l4, l5, l6, l7] (.int x :: st) M Q) ∧
  (∀ (d : Nat) (st : List Value) (M : jx_M) (Q : jx_Po) (l0 l1 l2 l3 l4 l6 l7 : Option Value) (x : Int32), jx_Ev d 68 81 [l0, l1, l2, l3, l4, some (.int x), l6, l7] st M Q ↔ jx_Ev d 68 83 [l0, l1, l2, l3, l4, some (.int x), l6, l7] (.int x :: st) M Q) ∧
  (∀ (d : Nat) (lv : List (Option Value)) (M : jx_M) (Q : jx_Po) (a0 : Int32) (a1 : Int32) (a2 : Nat) (hk : jx_cl a2 = 4), jx_Ev (d + 1) 68 83 lv [.int a0, .int a1, .ref a2] M Q ↔ jx_I d 21 [.ref a2, .int a1, .int a0] M (fun x M => jx_Ev (d + 1) 68 86 lv (.int x :: []) M Q)) ∧
  (∀ (d : Nat) (lv : List (Option Value)) (st : List Value) (M : jx_M) (Q : jx_Po) (x : Int32), jx_Ev d 68 86 lv (.int x :: st) M Q ↔ (if x = 0 then jx_Ev d 68 101 lv st M Q else jx_Ev d 68 89 lv st M Q)) ∧
  (∀ (d : Nat) (st : List Value) (M : jx_M) (Q : jx_Po) (l0 l1 l2 l3 l4 l5 l6 : Option Value) (x : Nat), jx_Ev d 68 89 [l0, l1, l2, l3, l4, l5, l6, some (.ref x)] st M Q ↔ jx_Ev d 68 91 [l0, l1, l2, l3, l4, l5, l6, some (.ref x)] (.ref x :: st) M Q) ∧
  (∀ (d : Nat) (st : List Value) (M : jx_M) (Q : jx_Po) (l0 l1 l2 l3 l5 l6 l7 : Option Value) (x : Int32), jx_Ev d 68 91 [l0, l1, l2, l3, some (.int x), l5, l6, l7] st M Q ↔ jx_Ev d 68 93 [l0, l1, l2, l3, some (.int x), l5, l6, l7] (.int x :: st) M Q) ∧
  (∀ (d : Nat) (st : List Value) (M : jx_M) (Q : jx_Po) (l0 l1 l2 l3 l4 l6 l7 : Option Value) (x : Int32), jx_Ev d 68 93 [l0, l1, l2, l3, l4, some (.int x), l6, l7] st M Q ↔ jx_Ev d 68 95 [l0, l1, l2, l3, l4, some (.int x), l6, l7] (.int x :: st) M Q) ∧
  (∀ (d : Nat) (lv : List (Option Value)) (M : jx_M) (Q : jx_Po) (a0 : Int32) (a1 : Int32) (a2 : Nat) (hk : jx_cl a2 = 4), jx_Ev (d + 1) 68 95 lv [.int a0, .int a1, .ref a2] M Q ↔ jx_I d 21 [.ref a2, .int a1, .int a0] M (fun x M => jx_Ev (d + 1) 68 98 lv (.int x :: []) M Q)) ∧
  (∀ (d : Nat) (lv : List (Option Value)) (st : List Value) (M : jx_M) (Q : jx_Po) (x : Int32), jx_Ev d 68 98 lv (.int x :: st) M Q ↔ (if x = 0 then jx_Ev d 68 101 lv st M Q else jx_Ev d 68 107 lv st M Q)) ∧
  (∀ (d : Nat) (st : List Value) (M : jx_M) (Q : jx_Po) (l1 l2 l3 l4 l5 l6 l7 : Option Value) (x : Nat), jx_Ev d 68 101 [some (.ref x), l1, l2, l3, l4, l5, l6, l7] st M Q ↔ jx_Ev d 68 102 [some (.ref x), l1, l2, l3, l4, l5, l6, l7] (.ref x :: st) M Q) ∧
  (∀ (d : Nat) (lv : List (Option Value)) (st : List Value) (M : jx_M) (Q : jx_Po), jx_Ev d 68 102 lv st M Q ↔ jx_Ev d 68 103 lv (.int 3 :: st) M Q) ∧
  (∀ (d : Nat) (lv : List (Option Value)) (M : jx_M) (Q : jx_Po) (a0 : Int32), jx_Ev (d + 1) 68 103 lv [.int a0, .ref 0] M Q ↔ jx_I d 82 [.ref 0, .int a0] M (fun x M => jx_Ev (d + 1) 68 106 lv (.int x :: []) M Q)) ∧
  (∀ (d : Nat) (lv : List (Option Value)) (M : jx_M) (Q : jx_Po) (x : Int32), jx_Ev d 68 106 lv [.int x] M Q ↔ Q [.int x] M) ∧
  (∀ (d : Nat) (st : List Value) (M : jx_M) (Q : jx_Po) (l0 l1 l2 l3 l4 l5 l7 : Option Value) (x : Nat), jx_Ev d 68 107 [l0, l1, l2, l3, l4, l5, some (.ref x), l7] st M Q ↔ jx_Ev d 68 109 [l0, l1, l2, l3, l4, l5, some (.ref x), l7] (.ref x :: st) M Q) ∧
  (∀ (d : Nat) (lv : List (Option Value)) (st : List Value) (M : jx_M) (Q : jx_Po) (k : Nat) (hk : jx_cl k = 4), jx_Ev d 68 109 lv (.ref k :: st) M Q ↔ jx_Ev d 68 112 lv (.ref (k + 1) :: st) M Q) ∧
  (∀ (d : Nat) (st : List Value) (M : jx_M) (Q : jx_Po) (l0 l1 l3 l4 l5 l6 l7 : Option Value) (x : Int32), jx_Ev d 68 112 [l0, l1, some (.int x), l3, l4, l5, l6, l7] st M Q ↔ jx_Ev d 68 113 [l0, l1, some (.int x), l3, l4, l5, l6, l7] (.int x :: st) M Q) ∧
  (∀ (d : Nat) (st : List Value) (M : jx_M) (Q : jx_Po) (l0 l1 l2 l3 l4 l5 l6 : Option Value) (x : Nat), jx_Ev d 68 113 [l0, l1, l2, l3, l4, l5, l6, some (.ref x)] st M Q ↔ jx_Ev d 68 115 [l0, l1, l2, l3, l4, l5, l6, some (.ref x)] (.ref x :: st) M Q) ∧
  (∀ (d : Nat) (lv : List (Option Value)) (st : List Value) (M : jx_M) (Q : jx_Po) (k : Nat) (hk : jx_cl k = 4), jx_Ev d 68 115 lv (.ref k :: st) M Q ↔ jx_Ev d 68 118 lv (.ref (k + 1) :: st) M Q) ∧
  (∀ (d : Nat) (st : List Value) (M : jx_M) (Q : jx_Po) (l0 l1 l2 l3 l5 l6 l7 : Option Value) (x : Int32), jx_Ev d 68 118 [l0, l1, l2, l3, some (.int x), l5, l6, l7] st M Q ↔ jx_Ev d 68 120 [l0, l1, l2, l3, some (.int x), l5, l6, l7] (.int x :: st) M Q) ∧
  (∀ (d : Nat) (st : List Value) (M : jx_M) (Q : jx_Po) (l0 l1 l2 l3 l4 l6 l7 : Option Value) (x : Int32), jx_Ev d 68 120 [l0, l1, l2, l3, l4, some (.int x), l6, l7] st M Q ↔ jx_Ev d 68 122 [l0, l1, l2, l3, l4, some (.int x), l6, l7] (.int x :: st) M Q) ∧
  (∀ (d : Nat) (lv : List (Option Value)) (M : jx_M) (Q : jx_Po) (a0 : Int32) (a1 : Int32) (a2 : Nat) (a3 : Int32) (a4 : Nat) (h4 : jx_cl a4 = 9) (h2 : jx_cl a2 = 9), jx_Ev (d + 1) 68 122 lv [.int a0, .int a1, .ref a2, .int a3, .ref a4] M Q ↔ (jx_cpP a4 a2 a3 a1 a0 ∧ jx_Ev (d + 1) 68 125 lv [] (jx_cp M a4 a2 a3 a1 a0) Q)) ∧
  (∀ (d : Nat) (st : List Value) (M : jx_M) (Q : jx_Po) (l0 l1 l2 l3 l4 l6 l7 : Option Value) (x : Int32), jx_Ev d 68 125 [l0, l1, l2, l3, l4, some (.int x), l6, l7] st M Q ↔ jx_Ev d 68 127 [l0, l1, l2, l3, l4, some (.int x), l6, l7] (.int x :: st) M Q) ∧
  (∀ (d : Nat) (lv : List (Option Value)) (M : jx_M) (Q : jx_Po) (x : Int32), jx_Ev d 68 127 lv [.int x] M Q ↔ Q [.int x] M) := by
  refine ⟨?_, ?_, ?_, ?_, ?_, ?_, ?_, ?_, ?_, ?_, ?_, ?_, ?_, ?_, ?_, ?_, ?_, ?_, ?_, ?_, ?_, ?_, ?_, ?_, ?_, ?_, ?_, ?_, ?_, ?_, ?_, ?_, ?_, ?_, ?_, ?_, ?_, ?_, ?_, ?_, ?_, ?_, ?_, ?_, ?_, ?_, ?_, ?_, ?_, ?_, ?_, ?_, ?_, ?_, ?_, ?_, ?_, ?_, ?_, ?_, ?_, ?_, ?_, ?_⟩
  · exact fun d st M Q l1 l2 l3 l4 l5 l6 l7 x => jx_ev_st (jx_fok (by decide +kernel : decode (jx_mb 68) 0 = .ok (.aload_n 0, 1))) rfl rfl rfl
  · exact fun d lv st M Q => jx_ev_st (jx_fok (by decide +kernel : decode (jx_mb 68) 1 = .ok (.iconst 0, 1))) rfl rfl rfl
  · exact fun d lv st M Q x => jx_k_pf0 (jx_fok (by decide +kernel : decode (jx_mb 68) 2 = .ok (.putfield 66, 3))) rfl rfl rfl
  · exact fun d st M Q l0 l2 l3 l4 l5 l6 l7 x => jx_ev_st (jx_fok (by decide +kernel : decode (jx_mb 68) 5 = .ok (.iload_n 1, 1))) rfl rfl rfl
  · exact fun d lv M Q a0 => jx_ev_ci (jx_fok (by decide +kernel : decode (jx_mb 68) 6 = .ok (.invokestatic 70, 3))) rfl (jx_ccS (As := [.int a0]) (rest := []) rfl rfl rfl rfl rfl) (by decide)
  · exact fun d lv st M Q x => jx_k_b1 (jx_fok (by decide +kernel : decode (jx_mb 68) 9 = .ok (.ifCond .eq 10, 3))) rfl jx_hEq
  · exact fun d st M Q l0 l1 l2 l4 l5 l6 l7 x => jx_ev_st (jx_fok (by decide +kernel : decode (jx_mb 68) 12 = .ok (.iload_n 3, 1))) rfl rfl rfl
  · exact fun d lv M Q a0 => jx_ev_ci (jx_fok (by decide +kernel : decode (jx_mb 68) 13 = .ok (.invokestatic 70, 3))) rfl (jx_ccS (As := [.int a0]) (rest := []) rfl rfl rfl rfl rfl) (by decide)
  · exact fun d lv st M Q x => jx_k_b1n (jx_fok (by decide +kernel : decode (jx_mb 68) 16 = .ok (.ifCond .ne 5, 3))) rfl jx_hNe
  · exact fun d lv st M Q => jx_ev_st (jx_fok (by decide +kernel : decode (jx_mb 68) 19 = .ok (.iconst (-1), 1))) rfl rfl rfl
  · exact fun d lv M Q x => jx_k_ri (jx_fok (by decide +kernel : decode (jx_mb 68) 20 = .ok (.ireturn, 1))) rfl
  · exact fun d st M Q l1 l2 l3 l4 l5 l6 l7 x => jx_ev_st (jx_fok (by decide +kernel : decode (jx_mb 68) 21 = .ok (.aload_n 0, 1))) rfl rfl rfl
  · exact fun d lv st M Q => jx_k_gf (jx_fok (by decide +kernel : decode (jx_mb 68) 22 = .ok (.getfield 13, 3))) rfl rfl rfl
  · exact fun d st M Q l0 l2 l3 l4 l5 l6 l7 x => jx_ev_st (jx_fok (by decide +kernel : decode (jx_mb 68) 25 = .ok (.iload_n 1, 1))) rfl rfl rfl
  · exact fun d lv st M Q x => jx_k_aa (jx_fok (by decide +kernel : decode (jx_mb 68) 26 = .ok (.aaload, 1)))
  · exact fun d st M Q l0 l1 l2 l3 l4 l5 l6 l7 x => jx_ev_st (jx_fok (by decide +kernel : decode (jx_mb 68) 27 = .ok (.astore 6, 2))) rfl rfl rfl
  · exact fun d st M Q l1 l2 l3 l4 l5 l6 l7 x => jx_ev_st (jx_fok (by decide +kernel : decode (jx_mb 68) 29 = .ok (.aload_n 0, 1))) rfl rfl rfl
  · exact fun d lv st M Q => jx_k_gf (jx_fok (by decide +kernel : decode (jx_mb 68) 30 = .ok (.getfield 13, 3))) rfl rfl rfl
  · exact fun d st M Q l0 l1 l2 l4 l5 l6 l7 x => jx_ev_st (jx_fok (by decide +kernel : decode (jx_mb 68) 33 = .ok (.iload_n 3, 1))) rfl rfl rfl
  · exact fun d lv st M Q x => jx_k_aa (jx_fok (by decide +kernel : decode (jx_mb 68) 34 = .ok (.aaload, 1)))
  · exact fun d st M Q l0 l1 l2 l3 l4 l5 l6 l7 x => jx_ev_st (jx_fok (by decide +kernel : decode (jx_mb 68) 35 = .ok (.astore 7, 2))) rfl rfl rfl
  · exact fun d st M Q l0 l1 l2 l3 l4 l5 l7 x => jx_ev_st (jx_fok (by decide +kernel : decode (jx_mb 68) 37 = .ok (.aload 6, 2))) rfl rfl rfl
  · exact fun d lv st M Q k hk => jx_k_gf (jx_fok (by decide +kernel : decode (jx_mb 68) 39 = .ok (.getfield 209, 3))) rfl hk rfl
  · exact fun d lv st M Q x => jx_k_b1 (jx_fok (by decide +kernel : decode (jx_mb 68) 42 = .ok (.ifCond .eq 11, 3))) rfl jx_hEq
  · exact fun d st M Q l0 l1 l2 l3 l4 l5 l6 x => jx_ev_st (jx_fok (by decide +kernel : decode (jx_mb 68) 45 = .ok (.aload 7, 2))) rfl rfl rfl
  · exact fun d lv st M Q k hk => jx_k_gf (jx_fok (by decide +kernel : decode (jx_mb 68) 47 = .ok (.getfield 209, 3))) rfl hk rfl
  · exact fun d lv st M Q x => jx_k_b1n (jx_fok (by decide +kernel : decode (jx_mb 68) 50 = .ok (.ifCond .ne 9, 3))) rfl jx_hNe
  · exact fun d st M Q l1 l2 l3 l4 l5 l6 l7 x => jx_ev_st (jx_fok (by decide +kernel : decode (jx_mb 68) 53 = .ok (.aload_n 0, 1))) rfl rfl rfl
  · exact fun d lv st M Q => jx_ev_st (jx_fok (by decide +kernel : decode (jx_mb 68) 54 = .ok (.iconst 1, 1))) rfl rfl rfl
  · exact fun d lv M Q a0 => jx_ev_ci (jx_fok (by decide +kernel : decode (jx_mb 68) 55 = .ok (.invokevirtual 81, 3))) rfl (jx_ccV (As := [.int a0]) (rest := []) rfl rfl rfl rfl rfl rfl) (by decide)
  · exact fun d lv M Q x => jx_k_ri (jx_fok (by decide +kernel : decode (jx_mb 68) 58 = .ok (.ireturn, 1))) rfl
  · exact fun d st M Q l0 l1 l2 l3 l4 l5 l7 x => jx_ev_st (jx_fok (by decide +kernel : decode (jx_mb 68) 59 = .ok (.aload 6, 2))) rfl rfl rfl
  · exact fun d lv st M Q k hk => jx_k_gf (jx_fok (by decide +kernel : decode (jx_mb 68) 61 = .ok (.getfield 222, 3))) rfl hk rfl
  · exact fun d st M Q l0 l1 l2 l3 l4 l5 l6 x => jx_ev_st (jx_fok (by decide +kernel : decode (jx_mb 68) 64 = .ok (.aload 7, 2))) rfl rfl rfl
  · exact fun d lv st M Q k hk => jx_k_gf (jx_fok (by decide +kernel : decode (jx_mb 68) 66 = .ok (.getfield 222, 3))) rfl hk rfl
  · exact fun d lv st M Q x z => jx_k_b2 (jx_fok (by decide +kernel : decode (jx_mb 68) 69 = .ok (.if_icmp .eq 9, 3))) rfl jx_hEq
  · exact fun d st M Q l1 l2 l3 l4 l5 l6 l7 x => jx_ev_st (jx_fok (by decide +kernel : decode (jx_mb 68) 72 = .ok (.aload_n 0, 1))) rfl rfl rfl
  · exact fun d lv st M Q => jx_ev_st (jx_fok (by decide +kernel : decode (jx_mb 68) 73 = .ok (.iconst 2, 1))) rfl rfl rfl
  · exact fun d lv M Q a0 => jx_ev_ci (jx_fok (by decide +kernel : decode (jx_mb 68) 74 = .ok (.invokevirtual 81, 3))) rfl (jx_ccV (As := [.int a0]) (rest := []) rfl rfl rfl rfl rfl rfl) (by decide)
  · exact fun d lv M Q x => jx_k_ri (jx_fok (by decide +kernel : decode (jx_mb 68) 77 = .ok (.ireturn, 1))) rfl
  · exact fun d st M Q l0 l1 l2 l3 l4 l5 l7 x => jx_ev_st (jx_fok (by decide +kernel : decode (jx_mb 68) 78 = .ok (.aload 6, 2))) rfl rfl rfl
  · exact fun d st M Q l0 l1 l3 l4 l5 l6 l7 x => jx_ev_st (jx_fok (by decide +kernel : decode (jx_mb 68) 80 = .ok (.iload_n 2, 1))) rfl rfl rfl
  · exact fun d st M Q l0 l1 l2 l3 l4 l6 l7 x => jx_ev_st (jx_fok (by decide +kernel : decode (jx_mb 68) 81 = .ok (.iload 5, 2))) rfl rfl rfl
  · exact fun d lv M Q a0 a1 a2 hk => jx_ev_ci (jx_fok (by decide +kernel : decode (jx_mb 68) 83 = .ok (.invokevirtual 213, 3))) rfl (jx_ccV (As := [.int a1, .int a0]) (rest := []) rfl rfl rfl hk rfl rfl) (by decide)
  · exact fun d lv st M Q x => jx_k_b1 (jx_fok (by decide +kernel : decode (jx_mb 68) 86 = .ok (.ifCond .eq 15, 3))) rfl jx_hEq
  · exact fun d st M Q l0 l1 l2 l3 l4 l5 l6 x => jx_ev_st (jx_fok (by decide +kernel : decode (jx_mb 68) 89 = .ok (.aload 7, 2))) rfl rfl rfl
  · exact fun d st M Q l0 l1 l2 l3 l5 l6 l7 x => jx_ev_st (jx_fok (by decide +kernel : decode (jx_mb 68) 91 = .ok (.iload 4, 2))) rfl rfl rfl
  · exact fun d st M Q l0 l1 l2 l3 l4 l6 l7 x => jx_ev_st (jx_fok (by decide +kernel : decode (jx_mb 68) 93 = .ok (.iload 5, 2))) rfl rfl rfl
  · exact fun d lv M Q a0 a1 a2 hk => jx_ev_ci (jx_fok (by decide +kernel : decode (jx_mb 68) 95 = .ok (.invokevirtual 213, 3))) rfl (jx_ccV (As := [.int a1, .int a0]) (rest := []) rfl rfl rfl hk rfl rfl) (by decide)
  · exact fun d lv st M Q x => jx_k_b1n (jx_fok (by decide +kernel : decode (jx_mb 68) 98 = .ok (.ifCond .ne 9, 3))) rfl jx_hNe
  · exact fun d st M Q l1 l2 l3 l4 l5 l6 l7 x => jx_ev_st (jx_fok (by decide +kernel : decode (jx_mb 68) 101 = .ok (.aload_n 0, 1))) rfl rfl rfl
  · exact fun d lv st M Q => jx_ev_st (jx_fok (by decide +kernel : decode (jx_mb 68) 102 = .ok (.iconst 3, 1))) rfl rfl rfl
  · exact fun d lv M Q a0 => jx_ev_ci (jx_fok (by decide +kernel : decode (jx_mb 68) 103 = .ok (.invokevirtual 81, 3))) rfl (jx_ccV (As := [.int a0]) (rest := []) rfl rfl rfl rfl rfl rfl) (by decide)
  · exact fun d lv M Q x => jx_k_ri (jx_fok (by decide +kernel : decode (jx_mb 68) 106 = .ok (.ireturn, 1))) rfl
  · exact fun d st M Q l0 l1 l2 l3 l4 l5 l7 x => jx_ev_st (jx_fok (by decide +kernel : decode (jx_mb 68) 107 = .ok (.aload 6, 2))) rfl rfl rfl
  · exact fun d lv st M Q k hk => jx_k_gf (jx_fok (by decide +kernel : decode (jx_mb 68) 109 = .ok (.getfield 225, 3))) rfl hk rfl
  · exact fun d st M Q l0 l1 l3 l4 l5 l6 l7 x => jx_ev_st (jx_fok (by decide +kernel : decode (jx_mb 68) 112 = .ok (.iload_n 2, 1))) rfl rfl rfl
  · exact fun d st M Q l0 l1 l2 l3 l4 l5 l6 x => jx_ev_st (jx_fok (by decide +kernel : decode (jx_mb 68) 113 = .ok (.aload 7, 2))) rfl rfl rfl
  · exact fun d lv st M Q k hk => jx_k_gf (jx_fok (by decide +kernel : decode (jx_mb 68) 115 = .ok (.getfield 225, 3))) rfl hk rfl
  · exact fun d st M Q l0 l1 l2 l3 l5 l6 l7 x => jx_ev_st (jx_fok (by decide +kernel : decode (jx_mb 68) 118 = .ok (.iload 4, 2))) rfl rfl rfl
  · exact fun d st M Q l0 l1 l2 l3 l4 l6 l7 x => jx_ev_st (jx_fok (by decide +kernel : decode (jx_mb 68) 120 = .ok (.iload 5, 2))) rfl rfl rfl
  · exact fun d lv M Q a0 a1 a2 a3 a4 h4 h2 => jx_k_cpy (jx_fok (by decide +kernel : decode (jx_mb 68) 122 = .ok (.invokestatic 228, 3))) rfl rfl (Nat.le_of_ble_eq_true rfl) h4 h2
  · exact fun d st M Q l0 l1 l2 l3 l4 l6 l7 x => jx_ev_st (jx_fok (by decide +kernel : decode (jx_mb 68) 125 = .ok (.iload 5, 2))) rfl rfl rfl
  · exact fun d lv M Q x => jx_k_ri (jx_fok (by decide +kernel : decode (jx_mb 68) 127 = .ok (.ireturn, 1))) rfl
theorem kX7_copy (d : Nat) (M : jx_M) (q : Int32 → jx_M → Prop) (a0 a1 a2 a3 a4 a5 : Value) : jx_I d 68 [a0, a1, a2, a3, a4, a5] M q ↔ jx_Ev d 68 0 [some a0, some a1, some a2, some a3, some a4, some a5, none, none] [] M (jx_qI q) := Iff.rfl
set_option maxRecDepth 100000 in
theorem eX7_tell :
  (∀ (d : Nat) (st : List Value) (M : jx_M) (Q : jx_Po) (l1 : Option Value) (x : Nat), jx_Ev d 69 0 [some (.ref x), l1] st M Q ↔ jx_Ev d 69 1 [some (.ref x), l1] (.ref x :: st) M Q) ∧
  (∀ (d : Nat) (lv : List (Option Value)) (st : List Value) (M : jx_M) (Q : jx_Po), jx_Ev d 69 1 lv (.ref 0 :: st) M Q ↔ jx_Ev d 69 4 lv (jx_rv (M 0 6) :: st) M Q) ∧
  (∀ (d : Nat) (st : List Value) (M : jx_M) (Q : jx_Po) (l0 : Option Value) (x : Int32), jx_Ev d 69 4 [l0, some (.int x)] st M Q ↔ jx_Ev d 69 5 [l0, some (.int x)] (.int x :: st) M Q) ∧
  (∀ (d : Nat) (lv : List (Option Value)) (M : jx_M) (Q : jx_Po) (a0 : Int32) (a1 : Nat) (hk : jx_cl a1 = 1), jx_Ev (d + 1) 69 5 lv [.int a0, .ref a1] M Q ↔ jx_I d 6 [.ref a1, .int a0] M (fun x M => jx_Ev (d + 1) 69 8 lv (.int x :: []) M Q)) ∧
  (∀ (d : Nat) (lv : List (Option Value)) (st : List Value) (M : jx_M) (Q : jx_Po) (x : Int32), jx_Ev d 69 8 lv (.int x :: st) M Q ↔ (if x = 0 then jx_Ev d 69 11 lv st M Q else jx_Ev d 69 13 lv st M Q)) ∧
  (∀ (d : Nat) (lv : List (Option Value)) (st : List Value) (M : jx_M) (Q : jx_Po), jx_Ev d 69 11 lv st M Q ↔ jx_Ev d 69 12 lv (.int (-1) :: st) M Q) ∧
  (∀ (d : Nat) (lv : List (Option Value)) (M : jx_M) (Q : jx_Po) (x : Int32), jx_Ev d 69 12 lv [.int x] M Q ↔ Q [.int x] M) ∧
  (∀ (d : Nat) (st : List Value) (M : jx_M) (Q : jx_Po) (l1 : Option Value) (x : Nat), jx_Ev d 69 13 [some (.ref x), l1] st M Q ↔ jx_Ev d 69 14 [some (.ref x), l1] (.ref x :: st) M Q) ∧
  (∀ (d : Nat) (lv : List (Option Value)) (st : List Value) (M : jx_M) (Q : jx_Po), jx_Ev d 69 14 lv (.ref 0 :: st) M Q ↔ jx_Ev d 69 17 lv (jx_rv (M 0 6) :: st) M Q) ∧
  (∀ (d : Nat) (lv : List (Option Value)) (st : List Value) (M : jx_M) (Q : jx_Po) (k : Nat) (hk : jx_cl k = 1), jx_Ev d 69 17 lv (.ref k :: st) M Q ↔ jx_Ev d 69 20 lv (.ref (k + 3) :: st) M Q) ∧
  (∀ (d : Nat) (st : List Value) (M : jx_M) (Q : jx_Po) (l0 : Option Value) (x : Int32), jx_Ev d 69 20 [l0, some (.int x)] st M Q ↔ jx_Ev d 69 21 [l0, some (.int x)] (.int x :: st) M Q) ∧
  (∀ (d : Nat) (lv : List (Option Value)) (st : List Value) (M : jx_M) (Q : jx_Po) (x : Int32) (a : Nat) (ha : jx_cl a = 9), jx_Ev d 69 21 lv (.int x :: .ref a :: st) M Q ↔ (vp_in x (jx_sz a) ∧ jx_Ev d 69 22 lv (.int (M a x.toNatClampNeg) :: st) M Q)) ∧
  (∀ (d : Nat) (lv : List (Option Value)) (st : List Value) (M : jx_M) (Q : jx_Po) (x : Int32), jx_Ev d 69 22 lv (.int x :: st) M Q ↔ (if x = 1 then jx_Ev d 69 54 lv st M Q else if x = 2 then jx_Ev d 69 48 lv st M Q else jx_Ev d 69 60 lv st M Q)) ∧
  (∀ (d : Nat) (st : List Value) (M : jx_M) (Q : jx_Po) (l1 : Option Value) (x : Nat), jx_Ev d 69 48 [some (.ref x), l1] st M Q ↔ jx_Ev d 69 49 [some (.ref x), l1] (.ref x :: st) M Q) ∧
  (∀ (d : Nat) (st : List Value) (M : jx_M) (Q : jx_Po) (l0 : Option Value) (x : Int32), jx_Ev d 69 49 [l0, some (.int x)] st M Q ↔ jx_Ev d 69 50 [l0, some (.int x)] (.int x :: st) M Q) ∧
  (∀ (d : Nat) (lv : List (Option Value)) (M : jx_M) (Q : jx_Po) (a0 : Int32), jx_Ev (d + 1) 69 50 lv [.int a0, .ref 0] M Q ↔ jx_I d 70 [.ref 0, .int a0] M (fun x M => jx_Ev (d + 1) 69 53 lv (.int x :: []) M Q)) ∧
  (∀ (d : Nat) (lv : List (Option Value)) (M : jx_M) (Q : jx_Po) (x : Int32), jx_Ev d 69 53 lv [.int x] M Q ↔ Q [.int x] M) ∧
  (∀ (d : Nat) (st : List Value) (M : jx_M) (Q : jx_Po) (l1 : Option Value) (x : Nat), jx_Ev d 69 54 [some (.ref x), l1] st M Q ↔ jx_Ev d 69 55 [some (.ref x), l1] (.ref x :: st) M Q) ∧
  (∀ (d : Nat) (st : List Value) (M : jx_M) (Q : jx_Po) (l0 : Option Value) (x : Int32), jx_Ev d 69 55 [l0, some (.int x)] st M Q ↔ jx_Ev d 69 56 [l0, some (.int x)] (.int x :: st) M Q) ∧
  (∀ (d : Nat) (lv : List (Option Value)) (M : jx_M) (Q : jx_Po) (a0 : Int32), jx_Ev (d + 1) 69 56 lv [.int a0, .ref 0] M Q ↔ jx_I d 71 [.ref 0, .int a0] M (fun x M => jx_Ev (d + 1) 69 59 lv (.int x :: []) M Q)) ∧
  (∀ (d : Nat) (lv : List (Option Value)) (M : jx_M) (Q : jx_Po) (x : Int32), jx_Ev d 69 59 lv [.int x] M Q ↔ Q [.int x] M) ∧
  (∀ (d : Nat) (st : List Value) (M : jx_M) (Q : jx_Po) (l1 : Option Value) (x : Nat), jx_Ev d 69 60 [some (.ref x), l1] st M Q ↔ jx_Ev d 69 61 [some (.ref x), l1] (.ref x :: st) M Q) ∧
  (∀ (d : Nat) (st : List Value) (M : jx_M) (Q : jx_Po) (l0 : Option Value) (x : Int32), jx_Ev d 69 61 [l0, some (.int x)] st M Q ↔ jx_Ev d 69 62 [l0, some (.int x)] (.int x :: st) M Q) ∧
  (∀ (d : Nat) (lv : List (Option Value)) (M : jx_M) (Q : jx_Po) (a0 : Int32), jx_Ev (d + 1) 69 62 lv [.int a0, .ref 0] M Q ↔ jx_I d 72 [.ref 0, .int a0] M (fun x M => jx_Ev (d + 1) 69 65 lv (.int x :: []) M Q)) ∧
  (∀ (d : Nat) (lv : List (Option Value)) (M : jx_M) (Q : jx_Po) (x : Int32), jx_Ev d 69 65 lv [.int x] M Q ↔ Q [.int x] M) := by
  refine ⟨?_, ?_, ?_, ?_, ?_, ?_, ?_, ?_, ?_, ?_, ?_, ?_, ?_, ?_, ?_, ?_, ?_, ?_, ?_, ?_, ?_, ?_, ?_, ?_, ?_⟩
  · exact fun d st M Q l1 x => jx_ev_st (jx_fok (by decide +kernel : decode (jx_mb 69) 0 = .ok (.aload_n 0, 1))) rfl rfl rfl
  · exact fun d lv st M Q => jx_k_gf (jx_fok (by decide +kernel : decode (jx_mb 69) 1 = .ok (.getfield 55, 3))) rfl rfl rfl
  · exact fun d st M Q l0 x => jx_ev_st (jx_fok (by decide +kernel : decode (jx_mb 69) 4 = .ok (.iload_n 1, 1))) rfl rfl rfl
  · exact fun d lv M Q a0 a1 hk => jx_ev_ci (jx_fok (by decide +kernel : decode (jx_mb 69) 5 = .ok (.invokevirtual 111, 3))) rfl (jx_ccV (As := [.int a0]) (rest := []) rfl rfl rfl hk rfl rfl) (by decide)
  · exact fun d lv st M Q x => jx_k_b1n (jx_fok (by decide +kernel : decode (jx_mb 69) 8 = .ok (.ifCond .ne 5, 3))) rfl jx_hNe
  · exact fun d lv st M Q => jx_ev_st (jx_fok (by decide +kernel : decode (jx_mb 69) 11 = .ok (.iconst (-1), 1))) rfl rfl rfl
  · exact fun d lv M Q x => jx_k_ri (jx_fok (by decide +kernel : decode (jx_mb 69) 12 = .ok (.ireturn, 1))) rfl
  · exact fun d st M Q l1 x => jx_ev_st (jx_fok (by decide +kernel : decode (jx_mb 69) 13 = .ok (.aload_n 0, 1))) rfl rfl rfl
  · exact fun d lv st M Q => jx_k_gf (jx_fok (by decide +kernel : decode (jx_mb 69) 14 = .ok (.getfield 55, 3))) rfl rfl rfl
  · exact fun d lv st M Q k hk => jx_k_gf (jx_fok (by decide +kernel : decode (jx_mb 69) 17 = .ok (.getfield 114, 3))) rfl hk rfl
  · exact fun d st M Q l0 x => jx_ev_st (jx_fok (by decide +kernel : decode (jx_mb 69) 20 = .ok (.iload_n 1, 1))) rfl rfl rfl
  · exact fun d lv st M Q x a ha => jx_k_al (jx_fok (by decide +kernel : decode (jx_mb 69) 21 = .ok (.iaload, 1))) ha
  · intro d lv st M Q x
    by_cases h0 : x = 1
    · subst h0; rw [if_pos rfl]; exact jx_k_lsw (jx_fok (by decide +kernel : decode (jx_mb 69) 22 = .ok (.lookupswitch 38 #[(1, 32), (2, 26)], 26))) (by decide) rfl
    rw [if_neg h0]
    by_cases h1 : x = 2
    · subst h1; rw [if_pos rfl]; exact jx_k_lsw (jx_fok (by decide +kernel : decode (jx_mb 69) 22 = .ok (.lookupswitch 38 #[(1, 32), (2, 26)], 26))) (by decide) rfl
    rw [if_neg h1]
    exact jx_k_lsw (jx_fok (by decide +kernel : decode (jx_mb 69) 22 = .ok (.lookupswitch 38 #[(1, 32), (2, 26)], 26))) (by decide) (by rw [show Op.lookupswitch.offset _ _ _ = _ from (lv_osw h0 (by decide)).trans ((lv_osw h1 (by decide)).trans rfl)]; rfl)
  · exact fun d st M Q l1 x => jx_ev_st (jx_fok (by decide +kernel : decode (jx_mb 69) 48 = .ok (.aload_n 0, 1))) rfl rfl rfl
  · exact fun d st M Q l0 x => jx_ev_st (jx_fok (by decide +kernel : decode (jx_mb 69) 49 = .ok (.iload_n 1, 1))) rfl rfl rfl
  · exact fun d lv M Q a0 => jx_ev_ci (jx_fok (by decide +kernel : decode (jx_mb 69) 50 = .ok (.invokevirtual 234, 3))) rfl (jx_ccV (As := [.int a0]) (rest := []) rfl rfl rfl rfl rfl rfl) (by decide)
  · exact fun d lv M Q x => jx_k_ri (jx_fok (by decide +kernel : decode (jx_mb 69) 53 = .ok (.ireturn, 1))) rfl
  · exact fun d st M Q l1 x => jx_ev_st (jx_fok (by decide +kernel : decode (jx_mb 69) 54 = .ok (.aload_n 0, 1))) rfl rfl rfl
  · exact fun d st M Q l0 x => jx_ev_st (jx_fok (by decide +kernel : decode (jx_mb 69) 55 = .ok (.iload_n 1, 1))) rfl rfl rfl
  · exact fun d lv M Q a0 => jx_ev_ci (jx_fok (by decide +kernel : decode (jx_mb 69) 56 = .ok (.invokevirtual 237, 3))) rfl (jx_ccV (As := [.int a0]) (rest := []) rfl rfl rfl rfl rfl rfl) (by decide)
  · exact fun d lv M Q x => jx_k_ri (jx_fok (by decide +kernel : decode (jx_mb 69) 59 = .ok (.ireturn, 1))) rfl
  · exact fun d st M Q l1 x => jx_ev_st (jx_fok (by decide +kernel : decode (jx_mb 69) 60 = .ok (.aload_n 0, 1))) rfl rfl rfl
  · exact fun d st M Q l0 x => jx_ev_st (jx_fok (by decide +kernel : decode (jx_mb 69) 61 = .ok (.iload_n 1, 1))) rfl rfl rfl
  · exact fun d lv M Q a0 => jx_ev_ci (jx_fok (by decide +kernel : decode (jx_mb 69) 62 = .ok (.invokevirtual 240, 3))) rfl (jx_ccV (As := [.int a0]) (rest := []) rfl rfl rfl rfl rfl rfl) (by decide)
  · exact fun d lv M Q x => jx_k_ri (jx_fok (by decide +kernel : decode (jx_mb 69) 65 = .ok (.ireturn, 1))) rfl
theorem kX7_tell (d : Nat) (M : jx_M) (q : Int32 → jx_M → Prop) (a0 a1 : Value) : jx_I d 69 [a0, a1] M q ↔ jx_Ev d 69 0 [some a0, some a1] [] M (jx_qI q) := Iff.rfl
set_option maxRecDepth 100000 in
theorem eX7_boomingBody :
  (∀ (d : Nat) (st : List Value) (M : jx_M) (Q : jx_Po) (l1 l2 : Option Value) (x : Nat), jx_Ev d 70 0 [some (.ref x), l1, l2] st M Q ↔ jx_Ev d 70 1 [some (.ref x), l1, l2] (.ref x :: st) M Q) ∧
  (∀ (d : Nat) (lv : List (Option Value)) (st : List Value) (M : jx_M) (Q : jx_Po), jx_Ev d 70 1 lv st M Q ↔ jx_Ev d 70 2 lv (.int 3 :: st) M Q) ∧
  (∀ (d : Nat) (lv : List (Option Value)) (M : jx_M) (Q : jx_Po) (a0 : Int32), jx_Ev (d + 1) 70 2 lv [.int a0, .ref 0] M Q ↔ jx_V d 73 [.ref 0, .int a0] M (fun M => jx_Ev (d + 1) 70 5 lv [] M Q)) ∧
  (∀ (d : Nat) (st : List Value) (M : jx_M) (Q : jx_Po) (l1 l2 : Option Value) (x : Nat), jx_Ev d 70 5 [some (.ref x), l1, l2] st M Q ↔ jx_Ev d 70 6 [some (.ref x), l1, l2] (.ref x :: st) M Q) ∧
  (∀ (d : Nat) (st : List Value) (M : jx_M) (Q : jx_Po) (l0 l2 : Option Value) (x : Int32), jx_Ev d 70 6 [l0, some (.int x), l2] st M Q ↔ jx_Ev d 70 7 [l0, some (.int x), l2] (.int x :: st) M Q) ∧
  (∀ (d : Nat) (lv : List (Option Value)) (M : jx_M) (Q : jx_Po) (a0 : Int32), jx_Ev (d + 1) 70 7 lv [.int a0, .ref 0] M Q ↔ jx_I d 71 [.ref 0, .int a0] M (fun x M => jx_Ev (d + 1) 70 10 lv (.int x :: []) M Q)) ∧
  (∀ (d : Nat) (st : List Value) (M : jx_M) (Q : jx_Po) (l0 l1 l2 : Option Value) (x : Int32), jx_Ev d 70 10 [l0, l1, l2] (.int x :: st) M Q ↔ jx_Ev d 70 11 [l0, l1, some (.int x)] st M Q) ∧
  (∀ (d : Nat) (st : List Value) (M : jx_M) (Q : jx_Po) (l0 l1 : Option Value) (x : Int32), jx_Ev d 70 11 [l0, l1, some (.int x)] st M Q ↔ jx_Ev d 70 12 [l0, l1, some (.int x)] (.int x :: st) M Q) ∧
  (∀ (d : Nat) (st : List Value) (M : jx_M) (Q : jx_Po) (l1 l2 : Option Value) (x : Nat), jx_Ev d 70 12 [some (.ref x), l1, l2] st M Q ↔ jx_Ev d 70 13 [some (.ref x), l1, l2] (.ref x :: st) M Q) ∧
  (∀ (d : Nat) (st : List Value) (M : jx_M) (Q : jx_Po) (l0 l2 : Option Value) (x : Int32), jx_Ev d 70 13 [l0, some (.int x), l2] st M Q ↔ jx_Ev d 70 14 [l0, some (.int x), l2] (.int x :: st) M Q) ∧
  (∀ (d : Nat) (lv : List (Option Value)) (M : jx_M) (Q : jx_Po) (a0 : Int32) (a2 : Int32), jx_Ev (d + 1) 70 14 lv [.int a0, .ref 0, .int a2] M Q ↔ jx_I d 72 [.ref 0, .int a0] M (fun x M => jx_Ev (d + 1) 70 17 lv (.int x :: [.int a2]) M Q)) ∧
  (∀ (d : Nat) (lv : List (Option Value)) (st : List Value) (M : jx_M) (Q : jx_Po) (x z : Int32), jx_Ev d 70 17 lv (.int z :: .int x :: st) M Q ↔ jx_Ev d 70 18 lv (.int (x + z) :: st) M Q) ∧
  (∀ (d : Nat) (lv : List (Option Value)) (M : jx_M) (Q : jx_Po) (x : Int32), jx_Ev d 70 18 lv [.int x] M Q ↔ Q [.int x] M) := by
  refine ⟨?_, ?_, ?_, ?_, ?_, ?_, ?_, ?_, ?_, ?_, ?_, ?_, ?_⟩
  · exact fun d st M Q l1 l2 x => jx_ev_st (jx_fok (by decide +kernel : decode (jx_mb 70) 0 = .ok (.aload_n 0, 1))) rfl rfl rfl
  · exact fun d lv st M Q => jx_ev_st (jx_fok (by decide +kernel : decode (jx_mb 70) 1 = .ok (.iconst 3, 1))) rfl rfl rfl
  · exact fun d lv M Q a0 => jx_ev_cv (jx_fok (by decide +kernel : decode (jx_mb 70) 2 = .ok (.invokevirtual 243, 3))) rfl (jx_ccV (As := [.int a0]) (rest := []) rfl rfl rfl rfl rfl rfl) rfl
  · exact fun d st M Q l1 l2 x => jx_ev_st (jx_fok (by decide +kernel : decode (jx_mb 70) 5 = .ok (.aload_n 0, 1))) rfl rfl rfl
  · exact fun d st M Q l0 l2 x => jx_ev_st (jx_fok (by decide +kernel : decode (jx_mb 70) 6 = .ok (.iload_n 1, 1))) rfl rfl rfl
  · exact fun d lv M Q a0 => jx_ev_ci (jx_fok (by decide +kernel : decode (jx_mb 70) 7 = .ok (.invokevirtual 237, 3))) rfl (jx_ccV (As := [.int a0]) (rest := []) rfl rfl rfl rfl rfl rfl) (by decide)
  · exact fun d st M Q l0 l1 l2 x => jx_ev_st (jx_fok (by decide +kernel : decode (jx_mb 70) 10 = .ok (.istore_n 2, 1))) rfl rfl rfl
  · exact fun d st M Q l0 l1 x => jx_ev_st (jx_fok (by decide +kernel : decode (jx_mb 70) 11 = .ok (.iload_n 2, 1))) rfl rfl rfl
  · exact fun d st M Q l1 l2 x => jx_ev_st (jx_fok (by decide +kernel : decode (jx_mb 70) 12 = .ok (.aload_n 0, 1))) rfl rfl rfl
  · exact fun d st M Q l0 l2 x => jx_ev_st (jx_fok (by decide +kernel : decode (jx_mb 70) 13 = .ok (.iload_n 1, 1))) rfl rfl rfl
  · exact fun d lv M Q a0 a2 => jx_ev_ci (jx_fok (by decide +kernel : decode (jx_mb 70) 14 = .ok (.invokevirtual 240, 3))) rfl (jx_ccV (As := [.int a0]) (rest := [.int a2]) rfl rfl rfl rfl rfl rfl) (by decide)
  · exact fun d lv st M Q x z => jx_ev_st (jx_fok (by decide +kernel : decode (jx_mb 70) 17 = .ok (.iadd, 1))) rfl rfl rfl
  · exact fun d lv M Q x => jx_k_ri (jx_fok (by decide +kernel : decode (jx_mb 70) 18 = .ok (.ireturn, 1))) rfl
theorem kX7_boomingBody (d : Nat) (M : jx_M) (q : Int32 → jx_M → Prop) (a0 a1 : Value) : jx_I d 70 [a0, a1] M q ↔ jx_Ev d 70 0 [some a0, some a1, none] [] M (jx_qI q) := Iff.rfl
set_option maxRecDepth 100000 in
theorem eX7_dryBody :
  (∀ (d : Nat) (st : List Value) (M : jx_M) (Q : jx_Po) (l1 : Option Value) (x : Nat), jx_Ev d 71 0 [some (.ref x), l1] st M Q ↔ jx_Ev d 71 1 [some (.ref x), l1] (.ref x :: st) M Q) ∧
  (∀ (d : Nat) (lv : List (Option Value)) (st : List Value) (M : jx_M) (Q : jx_Po), jx_Ev d 71 1 lv st M Q ↔ jx_Ev d 71 2 lv (.int 2 :: st) M Q) ∧
  (∀ (d : Nat) (lv : List (Option Value)) (M : jx_M) (Q : jx_Po) (a0 : Int32), jx_Ev (d + 1) 71 2 lv [.int a0, .ref 0] M Q ↔ jx_V d 73 [.ref 0, .int a0] M (fun M => jx_Ev (d + 1) 71 5 lv [] M Q)) ∧
  (∀ (d : Nat) (st : List Value) (M : jx_M) (Q : jx_Po) (l1 : Option Value) (x : Nat), jx_Ev d 71 5 [some (.ref x), l1] st M Q ↔ jx_Ev d 71 6 [some (.ref x), l1] (.ref x :: st) M Q) ∧
  (∀ (d : Nat) (st : List Value) (M : jx_M) (Q : jx_Po) (l0 : Option Value) (x : Int32), jx_Ev d 71 6 [l0, some (.int x)] st M Q ↔ jx_Ev d 71 7 [l0, some (.int x)] (.int x :: st) M Q) ∧
  (∀ (d : Nat) (lv : List (Option Value)) (M : jx_M) (Q : jx_Po) (a0 : Int32), jx_Ev (d + 1) 71 7 lv [.int a0, .ref 0] M Q ↔ jx_I d 72 [.ref 0, .int a0] M (fun x M => jx_Ev (d + 1) 71 10 lv (.int x :: []) M Q)) ∧
  (∀ (d : Nat) (lv : List (Option Value)) (st : List Value) (M : jx_M) (Q : jx_Po), jx_Ev d 71 10 lv st M Q ↔ jx_Ev d 71 12 lv (.int 100 :: st) M Q) ∧
  (∀ (d : Nat) (lv : List (Option Value)) (st : List Value) (M : jx_M) (Q : jx_Po) (x z : Int32), jx_Ev d 71 12 lv (.int z :: .int x :: st) M Q ↔ jx_Ev d 71 13 lv (.int (x + z) :: st) M Q) ∧
  (∀ (d : Nat) (lv : List (Option Value)) (M : jx_M) (Q : jx_Po) (x : Int32), jx_Ev d 71 13 lv [.int x] M Q ↔ Q [.int x] M) := by
  refine ⟨?_, ?_, ?_, ?_, ?_, ?_, ?_, ?_, ?_⟩
  · exact fun d st M Q l1 x => jx_ev_st (jx_fok (by decide +kernel : decode (jx_mb 71) 0 = .ok (.aload_n 0, 1))) rfl rfl rfl
  · exact fun d lv st M Q => jx_ev_st (jx_fok (by decide +kernel : decode (jx_mb 71) 1 = .ok (.iconst 2, 1))) rfl rfl rfl
  · exact fun d lv M Q a0 => jx_ev_cv (jx_fok (by decide +kernel : decode (jx_mb 71) 2 = .ok (.invokevirtual 243, 3))) rfl (jx_ccV (As := [.int a0]) (rest := []) rfl rfl rfl rfl rfl rfl) rfl
  · exact fun d st M Q l1 x => jx_ev_st (jx_fok (by decide +kernel : decode (jx_mb 71) 5 = .ok (.aload_n 0, 1))) rfl rfl rfl
  · exact fun d st M Q l0 x => jx_ev_st (jx_fok (by decide +kernel : decode (jx_mb 71) 6 = .ok (.iload_n 1, 1))) rfl rfl rfl
  · exact fun d lv M Q a0 => jx_ev_ci (jx_fok (by decide +kernel : decode (jx_mb 71) 7 = .ok (.invokevirtual 240, 3))) rfl (jx_ccV (As := [.int a0]) (rest := []) rfl rfl rfl rfl rfl rfl) (by decide)
  · exact fun d lv st M Q => jx_ev_st (jx_fok (by decide +kernel : decode (jx_mb 71) 10 = .ok (.bipush 100, 2))) rfl rfl rfl
  · exact fun d lv st M Q x z => jx_ev_st (jx_fok (by decide +kernel : decode (jx_mb 71) 12 = .ok (.iadd, 1))) rfl rfl rfl
  · exact fun d lv M Q x => jx_k_ri (jx_fok (by decide +kernel : decode (jx_mb 71) 13 = .ok (.ireturn, 1))) rfl
theorem kX7_dryBody (d : Nat) (M : jx_M) (q : Int32 → jx_M → Prop) (a0 a1 : Value) : jx_I d 71 [a0, a1] M q ↔ jx_Ev d 71 0 [some a0, some a1] [] M (jx_qI q) := Iff.rfl
set_option maxRecDepth 100000 in
theorem eX7_clapBody :
  (∀ (d : Nat) (st : List Value) (M : jx_M) (Q : jx_Po) (l1 : Option Value) (x : Nat), jx_Ev d 72 0 [some (.ref x), l1] st M Q ↔ jx_Ev d 72 1 [some (.ref x), l1] (.ref x :: st) M Q) ∧
  (∀ (d : Nat) (lv : List (Option Value)) (st : List Value) (M : jx_M) (Q : jx_Po), jx_Ev d 72 1 lv st M Q ↔ jx_Ev d 72 2 lv (.int 1 :: st) M Q) ∧
  (∀ (d : Nat) (lv : List (Option Value)) (M : jx_M) (Q : jx_Po) (a0 : Int32), jx_Ev (d + 1) 72 2 lv [.int a0, .ref 0] M Q ↔ jx_V d 73 [.ref 0, .int a0] M (fun M => jx_Ev (d + 1) 72 5 lv [] M Q)) ∧
  (∀ (d : Nat) (st : List Value) (M : jx_M) (Q : jx_Po) (l1 : Option Value) (x : Nat), jx_Ev d 72 5 [some (.ref x), l1] st M Q ↔ jx_Ev d 72 6 [some (.ref x), l1] (.ref x :: st) M Q) ∧
  (∀ (d : Nat) (lv : List (Option Value)) (st : List Value) (M : jx_M) (Q : jx_Po), jx_Ev d 72 6 lv (.ref 0 :: st) M Q ↔ jx_Ev d 72 9 lv (jx_rv (M 0 6) :: st) M Q) ∧
  (∀ (d : Nat) (lv : List (Option Value)) (st : List Value) (M : jx_M) (Q : jx_Po) (k : Nat) (hk : jx_cl k = 1), jx_Ev d 72 9 lv (.ref k :: st) M Q ↔ jx_Ev d 72 12 lv (.ref (k + 4) :: st) M Q) ∧
  (∀ (d : Nat) (st : List Value) (M : jx_M) (Q : jx_Po) (l0 : Option Value) (x : Int32), jx_Ev d 72 12 [l0, some (.int x)] st M Q ↔ jx_Ev d 72 13 [l0, some (.int x)] (.int x :: st) M Q) ∧
  (∀ (d : Nat) (lv : List (Option Value)) (st : List Value) (M : jx_M) (Q : jx_Po) (x : Int32) (a : Nat) (ha : jx_cl a = 9), jx_Ev d 72 13 lv (.int x :: .ref a :: st) M Q ↔ (vp_in x (jx_sz a) ∧ jx_Ev d 72 14 lv (.int (M a x.toNatClampNeg) :: st) M Q)) ∧
  (∀ (d : Nat) (lv : List (Option Value)) (M : jx_M) (Q : jx_Po) (x : Int32), jx_Ev d 72 14 lv [.int x] M Q ↔ Q [.int x] M) := by
  refine ⟨?_, ?_, ?_, ?_, ?_, ?_, ?_, ?_, ?_⟩
  · exact fun d st M Q l1 x => jx_ev_st (jx_fok (by decide +kernel : decode (jx_mb 72) 0 = .ok (.aload_n 0, 1))) rfl rfl rfl
  · exact fun d lv st M Q => jx_ev_st (jx_fok (by decide +kernel : decode (jx_mb 72) 1 = .ok (.iconst 1, 1))) rfl rfl rfl
  · exact fun d lv M Q a0 => jx_ev_cv (jx_fok (by decide +kernel : decode (jx_mb 72) 2 = .ok (.invokevirtual 243, 3))) rfl (jx_ccV (As := [.int a0]) (rest := []) rfl rfl rfl rfl rfl rfl) rfl
  · exact fun d st M Q l1 x => jx_ev_st (jx_fok (by decide +kernel : decode (jx_mb 72) 5 = .ok (.aload_n 0, 1))) rfl rfl rfl
  · exact fun d lv st M Q => jx_k_gf (jx_fok (by decide +kernel : decode (jx_mb 72) 6 = .ok (.getfield 55, 3))) rfl rfl rfl
  · exact fun d lv st M Q k hk => jx_k_gf (jx_fok (by decide +kernel : decode (jx_mb 72) 9 = .ok (.getfield 117, 3))) rfl hk rfl
  · exact fun d st M Q l0 x => jx_ev_st (jx_fok (by decide +kernel : decode (jx_mb 72) 12 = .ok (.iload_n 1, 1))) rfl rfl rfl
  · exact fun d lv st M Q x a ha => jx_k_al (jx_fok (by decide +kernel : decode (jx_mb 72) 13 = .ok (.iaload, 1))) ha
  · exact fun d lv M Q x => jx_k_ri (jx_fok (by decide +kernel : decode (jx_mb 72) 14 = .ok (.ireturn, 1))) rfl
theorem kX7_clapBody (d : Nat) (M : jx_M) (q : Int32 → jx_M → Prop) (a0 a1 : Value) : jx_I d 72 [a0, a1] M q ↔ jx_Ev d 72 0 [some a0, some a1] [] M (jx_qI q) := Iff.rfl
set_option maxRecDepth 100000 in
theorem eX7_leaveInTrace :
  (∀ (d : Nat) (st : List Value) (M : jx_M) (Q : jx_Po) (l1 : Option Value) (x : Nat), jx_Ev d 73 0 [some (.ref x), l1] st M Q ↔ jx_Ev d 73 1 [some (.ref x), l1] (.ref x :: st) M Q) ∧
  (∀ (d : Nat) (lv : List (Option Value)) (st : List Value) (M : jx_M) (Q : jx_Po), jx_Ev d 73 1 lv st M Q ↔ jx_Ev d 73 3 lv (.int 31 :: st) M Q) ∧
  (∀ (d : Nat) (st : List Value) (M : jx_M) (Q : jx_Po) (l1 : Option Value) (x : Nat), jx_Ev d 73 3 [some (.ref x), l1] st M Q ↔ jx_Ev d 73 4 [some (.ref x), l1] (.ref x :: st) M Q) ∧
  (∀ (d : Nat) (lv : List (Option Value)) (st : List Value) (M : jx_M) (Q : jx_Po), jx_Ev d 73 4 lv (.ref 0 :: st) M Q ↔ jx_Ev d 73 7 lv (.int (M 0 8) :: st) M Q) ∧
  (∀ (d : Nat) (lv : List (Option Value)) (st : List Value) (M : jx_M) (Q : jx_Po) (x z : Int32), jx_Ev d 73 7 lv (.int z :: .int x :: st) M Q ↔ jx_Ev d 73 8 lv (.int (x * z) :: st) M Q) ∧
  (∀ (d : Nat) (st : List Value) (M : jx_M) (Q : jx_Po) (l0 : Option Value) (x : Int32), jx_Ev d 73 8 [l0, some (.int x)] st M Q ↔ jx_Ev d 73 9 [l0, some (.int x)] (.int x :: st) M Q) ∧
  (∀ (d : Nat) (lv : List (Option Value)) (st : List Value) (M : jx_M) (Q : jx_Po) (x z : Int32), jx_Ev d 73 9 lv (.int z :: .int x :: st) M Q ↔ jx_Ev d 73 10 lv (.int (x + z) :: st) M Q) ∧
  (∀ (d : Nat) (lv : List (Option Value)) (st : List Value) (M : jx_M) (Q : jx_Po) (x : Int32), jx_Ev d 73 10 lv (.int x :: .ref 0 :: st) M Q ↔ jx_Ev d 73 13 lv st (jx_up M 0 8 x) Q) ∧
  (∀ (d : Nat) (lv : List (Option Value)) (M : jx_M) (Q : jx_Po), jx_Ev d 73 13 lv [] M Q ↔ Q [] M) := by
  refine ⟨?_, ?_, ?_, ?_, ?_, ?_, ?_, ?_, ?_⟩
  · exact fun d st M Q l1 x => jx_ev_st (jx_fok (by decide +kernel : decode (jx_mb 73) 0 = .ok (.aload_n 0, 1))) rfl rfl rfl
  · exact fun d lv st M Q => jx_ev_st (jx_fok (by decide +kernel : decode (jx_mb 73) 1 = .ok (.bipush 31, 2))) rfl rfl rfl
  · exact fun d st M Q l1 x => jx_ev_st (jx_fok (by decide +kernel : decode (jx_mb 73) 3 = .ok (.aload_n 0, 1))) rfl rfl rfl
  · exact fun d lv st M Q => jx_k_gf (jx_fok (by decide +kernel : decode (jx_mb 73) 4 = .ok (.getfield 62, 3))) rfl rfl rfl
  · exact fun d lv st M Q x z => jx_ev_st (jx_fok (by decide +kernel : decode (jx_mb 73) 7 = .ok (.imul, 1))) rfl rfl rfl
  · exact fun d st M Q l0 x => jx_ev_st (jx_fok (by decide +kernel : decode (jx_mb 73) 8 = .ok (.iload_n 1, 1))) rfl rfl rfl
  · exact fun d lv st M Q x z => jx_ev_st (jx_fok (by decide +kernel : decode (jx_mb 73) 9 = .ok (.iadd, 1))) rfl rfl rfl
  · exact fun d lv st M Q x => jx_k_pf0 (jx_fok (by decide +kernel : decode (jx_mb 73) 10 = .ok (.putfield 62, 3))) rfl rfl rfl
  · exact fun d lv M Q => jx_k_rv (jx_fok (by decide +kernel : decode (jx_mb 73) 13 = .ok (.return_, 1))) rfl
theorem kX7_leaveInTrace (d : Nat) (M : jx_M) (q : jx_M → Prop) (a0 a1 : Value) : jx_V d 73 [a0, a1] M q ↔ jx_Ev d 73 0 [some a0, some a1] [] M (jx_qV q) := Iff.rfl
set_option maxRecDepth 100000 in
theorem eX7_cork :
  (∀ (d : Nat) (st : List Value) (M : jx_M) (Q : jx_Po) (l1 l2 : Option Value) (x : Nat), jx_Ev d 74 0 [some (.ref x), l1, l2] st M Q ↔ jx_Ev d 74 1 [some (.ref x), l1, l2] (.ref x :: st) M Q) ∧
  (∀ (d : Nat) (lv : List (Option Value)) (st : List Value) (M : jx_M) (Q : jx_Po), jx_Ev d 74 1 lv (.ref 0 :: st) M Q ↔ jx_Ev d 74 4 lv (jx_rv (M 0 6) :: st) M Q) ∧
  (∀ (d : Nat) (st : List Value) (M : jx_M) (Q : jx_Po) (l0 l2 : Option Value) (x : Int32), jx_Ev d 74 4 [l0, some (.int x), l2] st M Q ↔ jx_Ev d 74 5 [l0, some (.int x), l2] (.int x :: st) M Q) ∧
  (∀ (d : Nat) (lv : List (Option Value)) (M : jx_M) (Q : jx_Po) (a0 : Int32) (a1 : Nat) (hk : jx_cl a1 = 1), jx_Ev (d + 1) 74 5 lv [.int a0, .ref a1] M Q ↔ jx_I d 6 [.ref a1, .int a0] M (fun x M => jx_Ev (d + 1) 74 8 lv (.int x :: []) M Q)) ∧
  (∀ (d : Nat) (lv : List (Option Value)) (st : List Value) (M : jx_M) (Q : jx_Po) (x : Int32), jx_Ev d 74 8 lv (.int x :: st) M Q ↔ (if x = 0 then jx_Ev d 74 11 lv st M Q else jx_Ev d 74 13 lv st M Q)) ∧
  (∀ (d : Nat) (lv : List (Option Value)) (st : List Value) (M : jx_M) (Q : jx_Po), jx_Ev d 74 11 lv st M Q ↔ jx_Ev d 74 12 lv (.int (-1) :: st) M Q) ∧
  (∀ (d : Nat) (lv : List (Option Value)) (M : jx_M) (Q : jx_Po) (x : Int32), jx_Ev d 74 12 lv [.int x] M Q ↔ Q [.int x] M) ∧
  (∀ (d : Nat) (st : List Value) (M : jx_M) (Q : jx_Po) (l1 l2 : Option Value) (x : Nat), jx_Ev d 74 13 [some (.ref x), l1, l2] st M Q ↔ jx_Ev d 74 14 [some (.ref x), l1, l2] (.ref x :: st) M Q) ∧
  (∀ (d : Nat) (lv : List (Option Value)) (st : List Value) (M : jx_M) (Q : jx_Po), jx_Ev d 74 14 lv (.ref 0 :: st) M Q ↔ jx_Ev d 74 17 lv (jx_rv (M 0 6) :: st) M Q) ∧
  (∀ (d : Nat) (lv : List (Option Value)) (st : List Value) (M : jx_M) (Q : jx_Po) (k : Nat) (hk : jx_cl k = 1), jx_Ev d 74 17 lv (.ref k :: st) M Q ↔ jx_Ev d 74 20 lv (.ref (k + 3) :: st) M Q) ∧
  (∀ (d : Nat) (st : List Value) (M : jx_M) (Q : jx_Po) (l0 l2 : Option Value) (x : Int32), jx_Ev d 74 20 [l0, some (.int x), l2] st M Q ↔ jx_Ev d 74 21 [l0, some (.int x), l2] (.int x :: st) M Q) ∧
  (∀ (d : Nat) (lv : List (Option Value)) (st : List Value) (M : jx_M) (Q : jx_Po) (x : Int32) (a : Nat) (ha : jx_cl a = 9), jx_Ev d 74 21 lv (.int x :: .ref a :: st) M Q ↔ (vp_in x (jx_sz a) ∧ jx_Ev d 74 22 lv (.int (M a x.toNatClampNeg) :: st) M Q)) ∧
  (∀ (d : Nat) (lv : List (Option Value)) (st : List Value) (M : jx_M) (Q : jx_Po), jx_Ev d 74 22 lv st M Q ↔ jx_Ev d 74 23 lv (.int 2 :: st) M Q) ∧
  (∀ (d : Nat) (lv : List (Option Value)) (st : List Value) (M : jx_M) (Q : jx_Po) (x z : Int32), jx_Ev d 74 23 lv (.int z :: .int x :: st) M Q ↔ (if x = z then jx_Ev d 74 26 lv st M Q else jx_Ev d 74 30 lv st M Q)) ∧
  (∀ (d : Nat) (lv : List (Option Value)) (st : List Value) (M : jx_M) (Q : jx_Po), jx_Ev d 74 26 lv st M Q ↔ jx_Ev d 74 27 lv (.int 1 :: st) M Q) ∧
  (∀ (d : Nat) (lv : List (Option Value)) (st : List Value) (M : jx_M) (Q : jx_Po), jx_Ev d 74 27 lv st M Q ↔ jx_Ev d 74 31 lv st M Q) ∧
  (∀ (d : Nat) (lv : List (Option Value)) (st : List Value) (M : jx_M) (Q : jx_Po), jx_Ev d 74 30 lv st M Q ↔ jx_Ev d 74 31 lv (.int 0 :: st) M Q) ∧
  (∀ (d : Nat) (st : List Value) (M : jx_M) (Q : jx_Po) (l0 l1 l2 : Option Value) (x : Int32), jx_Ev d 74 31 [l0, l1, l2] (.int x :: st) M Q ↔ jx_Ev d 74 32 [l0, l1, some (.int x)] st M Q) ∧
  (∀ (d : Nat) (st : List Value) (M : jx_M) (Q : jx_Po) (l1 l2 : Option Value) (x : Nat), jx_Ev d 74 32 [some (.ref x), l1, l2] st M Q ↔ jx_Ev d 74 33 [some (.ref x), l1, l2] (.ref x :: st) M Q) ∧
  (∀ (d : Nat) (st : List Value) (M : jx_M) (Q : jx_Po) (l0 l1 : Option Value) (x : Int32), jx_Ev d 74 33 [l0, l1, some (.int x)] st M Q ↔ jx_Ev d 74 34 [l0, l1, some (.int x)] (.int x :: st) M Q) ∧
  (∀ (d : Nat) (lv : List (Option Value)) (st : List Value) (M : jx_M) (Q : jx_Po) (x : Int32), jx_Ev d 74 34 lv (.int x :: st) M Q ↔ (if x = 0 then jx_Ev d 74 41 lv st M Q else jx_Ev d 74 37 lv st M Q)) ∧
  (∀ (d : Nat) (lv : List (Option Value)) (st : List Value) (M : jx_M) (Q : jx_Po), jx_Ev d 74 37 lv st M Q ↔ jx_Ev d 74 38 lv (.int 5 :: st) M Q) ∧
  (∀ (d : Nat) (lv : List (Option Value)) (st : List Value) (M : jx_M) (Q : jx_Po), jx_Ev d 74 38 lv st M Q ↔ jx_Ev d 74 42 lv st M Q) ∧
  (∀ (d : Nat) (lv : List (Option Value)) (st : List Value) (M : jx_M) (Q : jx_Po), jx_Ev d 74 41 lv st M Q ↔ jx_Ev d 74 42 lv (.int 4 :: st) M Q) ∧
  (∀ (d : Nat) (lv : List (Option Value)) (M : jx_M) (Q : jx_Po) (a0 : Int32), jx_Ev (d + 1) 74 42 lv [.int a0, .ref 0] M Q ↔ jx_V d 73 [.ref 0, .int a0] M (fun M => jx_Ev (d + 1) 74 45 lv [] M Q)) ∧
  (∀ (d : Nat) (st : List Value) (M : jx_M) (Q : jx_Po) (l0 l1 : Option Value) (x : Int32), jx_Ev d 74 45 [l0, l1, some (.int x)] st M Q ↔ jx_Ev d 74 46 [l0, l1, some (.int x)] (.int x :: st) M Q) ∧
  (∀ (d : Nat) (lv : List (Option Value)) (st : List Value) (M : jx_M) (Q : jx_Po) (x : Int32), jx_Ev d 74 46 lv (.int x :: st) M Q ↔ (if x = 0 then jx_Ev d 74 54 lv st M Q else jx_Ev d 74 49 lv st M Q)) ∧
  (∀ (d : Nat) (lv : List (Option Value)) (st : List Value) (M : jx_M) (Q : jx_Po), jx_Ev d 74 49 lv st M Q ↔ jx_Ev d 74 51 lv (.int 60 :: st) M Q) ∧
  (∀ (d : Nat) (lv : List (Option Value)) (st : List Value) (M : jx_M) (Q : jx_Po), jx_Ev d 74 51 lv st M Q ↔ jx_Ev d 74 55 lv st M Q) ∧
  (∀ (d : Nat) (st : List Value) (M : jx_M) (Q : jx_Po) (l0 l2 : Option Value) (x : Int32), jx_Ev d 74 54 [l0, some (.int x), l2] st M Q ↔ jx_Ev d 74 55 [l0, some (.int x), l2] (.int x :: st) M Q) ∧
  (∀ (d : Nat) (lv : List (Option Value)) (M : jx_M) (Q : jx_Po) (x : Int32), jx_Ev d 74 55 lv [.int x] M Q ↔ Q [.int x] M) := by
  refine ⟨?_, ?_, ?_, ?_, ?_, ?_, ?_, ?_, ?_, ?_, ?_, ?_, ?_, ?_, ?_, ?_, ?_, ?_, ?_, ?_, ?_, ?_, ?_, ?_, ?_, ?_, ?_, ?_, ?_, ?_, ?_⟩
  · exact fun d st M Q l1 l2 x => jx_ev_st (jx_fok (by decide +kernel : decode (jx_mb 74) 0 = .ok (.aload_n 0, 1))) rfl rfl rfl
  · exact fun d lv st M Q => jx_k_gf (jx_fok (by decide +kernel : decode (jx_mb 74) 1 = .ok (.getfield 55, 3))) rfl rfl rfl
  · exact fun d st M Q l0 l2 x => jx_ev_st (jx_fok (by decide +kernel : decode (jx_mb 74) 4 = .ok (.iload_n 1, 1))) rfl rfl rfl
  · exact fun d lv M Q a0 a1 hk => jx_ev_ci (jx_fok (by decide +kernel : decode (jx_mb 74) 5 = .ok (.invokevirtual 111, 3))) rfl (jx_ccV (As := [.int a0]) (rest := []) rfl rfl rfl hk rfl rfl) (by decide)
  · exact fun d lv st M Q x => jx_k_b1n (jx_fok (by decide +kernel : decode (jx_mb 74) 8 = .ok (.ifCond .ne 5, 3))) rfl jx_hNe
  · exact fun d lv st M Q => jx_ev_st (jx_fok (by decide +kernel : decode (jx_mb 74) 11 = .ok (.iconst (-1), 1))) rfl rfl rfl
  · exact fun d lv M Q x => jx_k_ri (jx_fok (by decide +kernel : decode (jx_mb 74) 12 = .ok (.ireturn, 1))) rfl
  · exact fun d st M Q l1 l2 x => jx_ev_st (jx_fok (by decide +kernel : decode (jx_mb 74) 13 = .ok (.aload_n 0, 1))) rfl rfl rfl
  · exact fun d lv st M Q => jx_k_gf (jx_fok (by decide +kernel : decode (jx_mb 74) 14 = .ok (.getfield 55, 3))) rfl rfl rfl
  · exact fun d lv st M Q k hk => jx_k_gf (jx_fok (by decide +kernel : decode (jx_mb 74) 17 = .ok (.getfield 114, 3))) rfl hk rfl
  · exact fun d st M Q l0 l2 x => jx_ev_st (jx_fok (by decide +kernel : decode (jx_mb 74) 20 = .ok (.iload_n 1, 1))) rfl rfl rfl
  · exact fun d lv st M Q x a ha => jx_k_al (jx_fok (by decide +kernel : decode (jx_mb 74) 21 = .ok (.iaload, 1))) ha
  · exact fun d lv st M Q => jx_ev_st (jx_fok (by decide +kernel : decode (jx_mb 74) 22 = .ok (.iconst 2, 1))) rfl rfl rfl
  · exact fun d lv st M Q x z => jx_k_b2n (jx_fok (by decide +kernel : decode (jx_mb 74) 23 = .ok (.if_icmp .ne 7, 3))) rfl jx_hNe
  · exact fun d lv st M Q => jx_ev_st (jx_fok (by decide +kernel : decode (jx_mb 74) 26 = .ok (.iconst 1, 1))) rfl rfl rfl
  · exact fun d lv st M Q => jx_k_goto (jx_fok (by decide +kernel : decode (jx_mb 74) 27 = .ok (.goto 4, 3))) rfl
  · exact fun d lv st M Q => jx_ev_st (jx_fok (by decide +kernel : decode (jx_mb 74) 30 = .ok (.iconst 0, 1))) rfl rfl rfl
  · exact fun d st M Q l0 l1 l2 x => jx_ev_st (jx_fok (by decide +kernel : decode (jx_mb 74) 31 = .ok (.istore_n 2, 1))) rfl rfl rfl
  · exact fun d st M Q l1 l2 x => jx_ev_st (jx_fok (by decide +kernel : decode (jx_mb 74) 32 = .ok (.aload_n 0, 1))) rfl rfl rfl
  · exact fun d st M Q l0 l1 x => jx_ev_st (jx_fok (by decide +kernel : decode (jx_mb 74) 33 = .ok (.iload_n 2, 1))) rfl rfl rfl
  · exact fun d lv st M Q x => jx_k_b1 (jx_fok (by decide +kernel : decode (jx_mb 74) 34 = .ok (.ifCond .eq 7, 3))) rfl jx_hEq
  · exact fun d lv st M Q => jx_ev_st (jx_fok (by decide +kernel : decode (jx_mb 74) 37 = .ok (.iconst 5, 1))) rfl rfl rfl
  · exact fun d lv st M Q => jx_k_goto (jx_fok (by decide +kernel : decode (jx_mb 74) 38 = .ok (.goto 4, 3))) rfl
  · exact fun d lv st M Q => jx_ev_st (jx_fok (by decide +kernel : decode (jx_mb 74) 41 = .ok (.iconst 4, 1))) rfl rfl rfl
  · exact fun d lv M Q a0 => jx_ev_cv (jx_fok (by decide +kernel : decode (jx_mb 74) 42 = .ok (.invokevirtual 243, 3))) rfl (jx_ccV (As := [.int a0]) (rest := []) rfl rfl rfl rfl rfl rfl) rfl
  · exact fun d st M Q l0 l1 x => jx_ev_st (jx_fok (by decide +kernel : decode (jx_mb 74) 45 = .ok (.iload_n 2, 1))) rfl rfl rfl
  · exact fun d lv st M Q x => jx_k_b1 (jx_fok (by decide +kernel : decode (jx_mb 74) 46 = .ok (.ifCond .eq 8, 3))) rfl jx_hEq
  · exact fun d lv st M Q => jx_ev_st (jx_fok (by decide +kernel : decode (jx_mb 74) 49 = .ok (.bipush 60, 2))) rfl rfl rfl
  · exact fun d lv st M Q => jx_k_goto (jx_fok (by decide +kernel : decode (jx_mb 74) 51 = .ok (.goto 4, 3))) rfl
  · exact fun d st M Q l0 l2 x => jx_ev_st (jx_fok (by decide +kernel : decode (jx_mb 74) 54 = .ok (.iload_n 1, 1))) rfl rfl rfl
  · exact fun d lv M Q x => jx_k_ri (jx_fok (by decide +kernel : decode (jx_mb 74) 55 = .ok (.ireturn, 1))) rfl
theorem kX7_cork (d : Nat) (M : jx_M) (q : Int32 → jx_M → Prop) (a0 a1 : Value) : jx_I d 74 [a0, a1] M q ↔ jx_Ev d 74 0 [some a0, some a1, none] [] M (jx_qI q) := Iff.rfl
set_option maxRecDepth 100000 in
theorem eX7_as :
  (∀ (d : Nat) (st : List Value) (M : jx_M) (Q : jx_Po) (l1 l2 : Option Value) (x : Nat), jx_Ev d 75 0 [some (.ref x), l1, l2] st M Q ↔ jx_Ev d 75 1 [some (.ref x), l1, l2] (.ref x :: st) M Q) ∧
  (∀ (d : Nat) (lv : List (Option Value)) (st : List Value) (M : jx_M) (Q : jx_Po), jx_Ev d 75 1 lv st M Q ↔ jx_Ev d 75 2 lv (.int 0 :: st) M Q) ∧
  (∀ (d : Nat) (lv : List (Option Value)) (st : List Value) (M : jx_M) (Q : jx_Po) (x : Int32), jx_Ev d 75 2 lv (.int x :: .ref 0 :: st) M Q ↔ jx_Ev d 75 5 lv st (jx_up M 0 9 x) Q) ∧
  (∀ (d : Nat) (st : List Value) (M : jx_M) (Q : jx_Po) (l1 l2 : Option Value) (x : Nat), jx_Ev d 75 5 [some (.ref x), l1, l2] st M Q ↔ jx_Ev d 75 6 [some (.ref x), l1, l2] (.ref x :: st) M Q) ∧
  (∀ (d : Nat) (lv : List (Option Value)) (st : List Value) (M : jx_M) (Q : jx_Po), jx_Ev d 75 6 lv (.ref 0 :: st) M Q ↔ jx_Ev d 75 9 lv (jx_rv (M 0 6) :: st) M Q) ∧
  (∀ (d : Nat) (st : List Value) (M : jx_M) (Q : jx_Po) (l0 l2 : Option Value) (x : Int32), jx_Ev d 75 9 [l0, some (.int x), l2] st M Q ↔ jx_Ev d 75 10 [l0, some (.int x), l2] (.int x :: st) M Q) ∧
  (∀ (d : Nat) (lv : List (Option Value)) (M : jx_M) (Q : jx_Po) (a0 : Int32) (a1 : Nat) (hk : jx_cl a1 = 1), jx_Ev (d + 1) 75 10 lv [.int a0, .ref a1] M Q ↔ jx_I d 6 [.ref a1, .int a0] M (fun x M => jx_Ev (d + 1) 75 13 lv (.int x :: []) M Q)) ∧
  (∀ (d : Nat) (lv : List (Option Value)) (st : List Value) (M : jx_M) (Q : jx_Po) (x : Int32), jx_Ev d 75 13 lv (.int x :: st) M Q ↔ (if x = 0 then jx_Ev d 75 16 lv st M Q else jx_Ev d 75 18 lv st M Q)) ∧
  (∀ (d : Nat) (lv : List (Option Value)) (st : List Value) (M : jx_M) (Q : jx_Po), jx_Ev d 75 16 lv st M Q ↔ jx_Ev d 75 17 lv (.int (-1) :: st) M Q) ∧
  (∀ (d : Nat) (lv : List (Option Value)) (M : jx_M) (Q : jx_Po) (x : Int32), jx_Ev d 75 17 lv [.int x] M Q ↔ Q [.int x] M) ∧
  (∀ (d : Nat) (st : List Value) (M : jx_M) (Q : jx_Po) (l0 l1 : Option Value) (x : Int32), jx_Ev d 75 18 [l0, l1, some (.int x)] st M Q ↔ jx_Ev d 75 19 [l0, l1, some (.int x)] (.int x :: st) M Q) ∧
  (∀ (d : Nat) (lv : List (Option Value)) (st : List Value) (M : jx_M) (Q : jx_Po) (x : Int32), jx_Ev d 75 19 lv (.int x :: st) M Q ↔ (if x < 0 then jx_Ev d 75 27 lv st M Q else jx_Ev d 75 22 lv st M Q)) ∧
  (∀ (d : Nat) (st : List Value) (M : jx_M) (Q : jx_Po) (l0 l1 : Option Value) (x : Int32), jx_Ev d 75 22 [l0, l1, some (.int x)] st M Q ↔ jx_Ev d 75 23 [l0, l1, some (.int x)] (.int x :: st) M Q) ∧
  (∀ (d : Nat) (lv : List (Option Value)) (st : List Value) (M : jx_M) (Q : jx_Po), jx_Ev d 75 23 lv st M Q ↔ jx_Ev d 75 24 lv (.int 2 :: st) M Q) ∧
  (∀ (d : Nat) (lv : List (Option Value)) (st : List Value) (M : jx_M) (Q : jx_Po) (x z : Int32), jx_Ev d 75 24 lv (.int z :: .int x :: st) M Q ↔ (if x ≤ z then jx_Ev d 75 30 lv st M Q else jx_Ev d 75 27 lv st M Q)) ∧
  (∀ (d : Nat) (lv : List (Option Value)) (st : List Value) (M : jx_M) (Q : jx_Po), jx_Ev d 75 27 lv st M Q ↔ jx_Ev d 75 29 lv (.int (-2) :: st) M Q) ∧
  (∀ (d : Nat) (lv : List (Option Value)) (M : jx_M) (Q : jx_Po) (x : Int32), jx_Ev d 75 29 lv [.int x] M Q ↔ Q [.int x] M) ∧
  (∀ (d : Nat) (st : List Value) (M : jx_M) (Q : jx_Po) (l0 l1 : Option Value) (x : Int32), jx_Ev d 75 30 [l0, l1, some (.int x)] st M Q ↔ jx_Ev d 75 31 [l0, l1, some (.int x)] (.int x :: st) M Q) ∧
  (∀ (d : Nat) (st : List Value) (M : jx_M) (Q : jx_Po) (l1 l2 : Option Value) (x : Nat), jx_Ev d 75 31 [some (.ref x), l1, l2] st M Q ↔ jx_Ev d 75 32 [some (.ref x), l1, l2] (.ref x :: st) M Q) ∧
  (∀ (d : Nat) (lv : List (Option Value)) (st : List Value) (M : jx_M) (Q : jx_Po), jx_Ev d 75 32 lv (.ref 0 :: st) M Q ↔ jx_Ev d 75 35 lv (jx_rv (M 0 6) :: st) M Q) ∧
  (∀ (d : Nat) (lv : List (Option Value)) (st : List Value) (M : jx_M) (Q : jx_Po) (k : Nat) (hk : jx_cl k = 1), jx_Ev d 75 35 lv (.ref k :: st) M Q ↔ jx_Ev d 75 38 lv (.ref (k + 3) :: st) M Q) ∧
  (∀ (d : Nat) (st : List Value) (M : jx_M) (Q : jx_Po) (l0 l2 : Option Value) (x : Int32), jx_Ev d 75 38 [l0, some (.int x), l2] st M Q ↔ jx_Ev d 75 39 [l0, some (.int x), l2] (.int x :: st) M Q) ∧
  (∀ (d : Nat) (lv : List (Option Value)) (st : List Value) (M : jx_M) (Q : jx_Po) (x : Int32) (a : Nat) (ha : jx_cl a = 9), jx_Ev d 75 39 lv (.int x :: .ref a :: st) M Q ↔ (vp_in x (jx_sz a) ∧ jx_Ev d 75 40 lv (.int (M a x.toNatClampNeg) :: st) M Q)) ∧
  (∀ (d : Nat) (lv : List (Option Value)) (st : List Value) (M : jx_M) (Q : jx_Po) (x z : Int32), jx_Ev d 75 40 lv (.int z :: .int x :: st) M Q ↔ (if z < x then jx_Ev d 75 47 lv st M Q else jx_Ev d 75 43 lv st M Q)) ∧
  (∀ (d : Nat) (lv : List (Option Value)) (st : List Value) (M : jx_M) (Q : jx_Po), jx_Ev d 75 43 lv st M Q ↔ jx_Ev d 75 44 lv (.int 1 :: st) M Q) ∧
  (∀ (d : Nat) (lv : List (Option Value)) (st : List Value) (M : jx_M) (Q : jx_Po), jx_Ev d 75 44 lv st M Q ↔ jx_Ev d 75 52 lv st M Q) ∧
  (∀ (d : Nat) (st : List Value) (M : jx_M) (Q : jx_Po) (l1 l2 : Option Value) (x : Nat), jx_Ev d 75 47 [some (.ref x), l1, l2] st M Q ↔ jx_Ev d 75 48 [some (.ref x), l1, l2] (.ref x :: st) M Q) ∧
  (∀ (d : Nat) (lv : List (Option Value)) (st : List Value) (M : jx_M) (Q : jx_Po), jx_Ev d 75 48 lv st M Q ↔ jx_Ev d 75 49 lv (.int 2 :: st) M Q) ∧
  (∀ (d : Nat) (lv : List (Option Value)) (M : jx_M) (Q : jx_Po) (a0 : Int32), jx_Ev (d + 1) 75 49 lv [.int a0, .ref 0] M Q ↔ jx_I d 82 [.ref 0, .int a0] M (fun x M => jx_Ev (d + 1) 75 52 lv (.int x :: []) M Q)) ∧
  (∀ (d : Nat) (lv : List (Option Value)) (M : jx_M) (Q : jx_Po) (x : Int32), jx_Ev d 75 52 lv [.int x] M Q ↔ Q [.int x] M) := by
  refine ⟨?_, ?_, ?_, ?_, ?_, ?_, ?_, ?_, ?_, ?_, ?_, ?_, ?_, ?_, ?_, ?_, ?_, ?_, ?_, ?_, ?_, ?_, ?_, ?_, ?_, ?_, ?_, ?_, ?_, ?_⟩
  · exact fun d st M Q l1 l2 x => jx_ev_st (jx_fok (by decide +kernel : decode (jx_mb 75) 0 = .ok (.aload_n 0, 1))) rfl rfl rfl
  · exact fun d lv st M Q => jx_ev_st (jx_fok (by decide +kernel : decode (jx_mb 75) 1 = .ok (.iconst 0, 1))) rfl rfl rfl
  · exact fun d lv st M Q x => jx_k_pf0 (jx_fok (by decide +kernel : decode (jx_mb 75) 2 = .ok (.putfield 66, 3))) rfl rfl rfl
  · exact fun d st M Q l1 l2 x => jx_ev_st (jx_fok (by decide +kernel : decode (jx_mb 75) 5 = .ok (.aload_n 0, 1))) rfl rfl rfl
  · exact fun d lv st M Q => jx_k_gf (jx_fok (by decide +kernel : decode (jx_mb 75) 6 = .ok (.getfield 55, 3))) rfl rfl rfl
  · exact fun d st M Q l0 l2 x => jx_ev_st (jx_fok (by decide +kernel : decode (jx_mb 75) 9 = .ok (.iload_n 1, 1))) rfl rfl rfl
  · exact fun d lv M Q a0 a1 hk => jx_ev_ci (jx_fok (by decide +kernel : decode (jx_mb 75) 10 = .ok (.invokevirtual 111, 3))) rfl (jx_ccV (As := [.int a0]) (rest := []) rfl rfl rfl hk rfl rfl) (by decide)
  · exact fun d lv st M Q x => jx_k_b1n (jx_fok (by decide +kernel : decode (jx_mb 75) 13 = .ok (.ifCond .ne 5, 3))) rfl jx_hNe
  · exact fun d lv st M Q => jx_ev_st (jx_fok (by decide +kernel : decode (jx_mb 75) 16 = .ok (.iconst (-1), 1))) rfl rfl rfl
  · exact fun d lv M Q x => jx_k_ri (jx_fok (by decide +kernel : decode (jx_mb 75) 17 = .ok (.ireturn, 1))) rfl
  · exact fun d st M Q l0 l1 x => jx_ev_st (jx_fok (by decide +kernel : decode (jx_mb 75) 18 = .ok (.iload_n 2, 1))) rfl rfl rfl
  · exact fun d lv st M Q x => jx_k_b1 (jx_fok (by decide +kernel : decode (jx_mb 75) 19 = .ok (.ifCond .lt 8, 3))) rfl jx_hLt
  · exact fun d st M Q l0 l1 x => jx_ev_st (jx_fok (by decide +kernel : decode (jx_mb 75) 22 = .ok (.iload_n 2, 1))) rfl rfl rfl
  · exact fun d lv st M Q => jx_ev_st (jx_fok (by decide +kernel : decode (jx_mb 75) 23 = .ok (.iconst 2, 1))) rfl rfl rfl
  · exact fun d lv st M Q x z => jx_k_b2 (jx_fok (by decide +kernel : decode (jx_mb 75) 24 = .ok (.if_icmp .le 6, 3))) rfl jx_hLe
  · exact fun d lv st M Q => jx_ev_st (jx_fok (by decide +kernel : decode (jx_mb 75) 27 = .ok (.bipush (-2), 2))) rfl rfl rfl
  · exact fun d lv M Q x => jx_k_ri (jx_fok (by decide +kernel : decode (jx_mb 75) 29 = .ok (.ireturn, 1))) rfl
  · exact fun d st M Q l0 l1 x => jx_ev_st (jx_fok (by decide +kernel : decode (jx_mb 75) 30 = .ok (.iload_n 2, 1))) rfl rfl rfl
  · exact fun d st M Q l1 l2 x => jx_ev_st (jx_fok (by decide +kernel : decode (jx_mb 75) 31 = .ok (.aload_n 0, 1))) rfl rfl rfl
  · exact fun d lv st M Q => jx_k_gf (jx_fok (by decide +kernel : decode (jx_mb 75) 32 = .ok (.getfield 55, 3))) rfl rfl rfl
  · exact fun d lv st M Q k hk => jx_k_gf (jx_fok (by decide +kernel : decode (jx_mb 75) 35 = .ok (.getfield 114, 3))) rfl hk rfl
  · exact fun d st M Q l0 l2 x => jx_ev_st (jx_fok (by decide +kernel : decode (jx_mb 75) 38 = .ok (.iload_n 1, 1))) rfl rfl rfl
  · exact fun d lv st M Q x a ha => jx_k_al (jx_fok (by decide +kernel : decode (jx_mb 75) 39 = .ok (.iaload, 1))) ha
  · exact fun d lv st M Q x z => jx_k_b2 (jx_fok (by decide +kernel : decode (jx_mb 75) 40 = .ok (.if_icmp .gt 7, 3))) rfl jx_hGt
  · exact fun d lv st M Q => jx_ev_st (jx_fok (by decide +kernel : decode (jx_mb 75) 43 = .ok (.iconst 1, 1))) rfl rfl rfl
  · exact fun d lv st M Q => jx_k_goto (jx_fok (by decide +kernel : decode (jx_mb 75) 44 = .ok (.goto 8, 3))) rfl
  · exact fun d st M Q l1 l2 x => jx_ev_st (jx_fok (by decide +kernel : decode (jx_mb 75) 47 = .ok (.aload_n 0, 1))) rfl rfl rfl
  · exact fun d lv st M Q => jx_ev_st (jx_fok (by decide +kernel : decode (jx_mb 75) 48 = .ok (.iconst 2, 1))) rfl rfl rfl
  · exact fun d lv M Q a0 => jx_ev_ci (jx_fok (by decide +kernel : decode (jx_mb 75) 49 = .ok (.invokevirtual 81, 3))) rfl (jx_ccV (As := [.int a0]) (rest := []) rfl rfl rfl rfl rfl rfl) (by decide)
  · exact fun d lv M Q x => jx_k_ri (jx_fok (by decide +kernel : decode (jx_mb 75) 52 = .ok (.ireturn, 1))) rfl
theorem kX7_as (d : Nat) (M : jx_M) (q : Int32 → jx_M → Prop) (a0 a1 a2 : Value) : jx_I d 75 [a0, a1, a2] M q ↔ jx_Ev d 75 0 [some a0, some a1, some a2] [] M (jx_qI q) := Iff.rfl
set_option maxRecDepth 100000 in
theorem eX7_trace :
  (∀ (d : Nat) (st : List Value) (M : jx_M) (Q : jx_Po) (x : Nat), jx_Ev d 76 0 [some (.ref x)] st M Q ↔ jx_Ev d 76 1 [some (.ref x)] (.ref x :: st) M Q) ∧
  (∀ (d : Nat) (lv : List (Option Value)) (st : List Value) (M : jx_M) (Q : jx_Po), jx_Ev d 76 1 lv (.ref 0 :: st) M Q ↔ jx_Ev d 76 4 lv (.int (M 0 8) :: st) M Q) ∧
  (∀ (d : Nat) (lv : List (Option Value)) (M : jx_M) (Q : jx_Po) (x : Int32), jx_Ev d 76 4 lv [.int x] M Q ↔ Q [.int x] M) := by
  refine ⟨?_, ?_, ?_⟩
  · exact fun d st M Q x => jx_ev_st (jx_fok (by decide +kernel : decode (jx_mb 76) 0 = .ok (.aload_n 0, 1))) rfl rfl rfl
  · exact fun d lv st M Q => jx_k_gf (jx_fok (by decide +kernel : decode (jx_mb 76) 1 = .ok (.getfield 62, 3))) rfl rfl rfl
  · exact fun d lv M Q x => jx_k_ri (jx_fok (by decide +kernel : decode (jx_mb 76) 4 = .ok (.ireturn, 1))) rfl
theorem kX7_trace (d : Nat) (M : jx_M) (q : Int32 → jx_M → Prop) (a0 : Value) : jx_I d 76 [a0] M q ↔ jx_Ev d 76 0 [some a0] [] M (jx_qI q) := Iff.rfl
set_option maxRecDepth 100000 in
theorem eX7_fault :
  (∀ (d : Nat) (st : List Value) (M : jx_M) (Q : jx_Po) (x : Nat), jx_Ev d 77 0 [some (.ref x)] st M Q ↔ jx_Ev d 77 1 [some (.ref x)] (.ref x :: st) M Q) ∧
  (∀ (d : Nat) (lv : List (Option Value)) (st : List Value) (M : jx_M) (Q : jx_Po), jx_Ev d 77 1 lv (.ref 0 :: st) M Q ↔ jx_Ev d 77 4 lv (.int (M 0 9) :: st) M Q) ∧
  (∀ (d : Nat) (lv : List (Option Value)) (M : jx_M) (Q : jx_Po) (x : Int32), jx_Ev d 77 4 lv [.int x] M Q ↔ Q [.int x] M) := by
  refine ⟨?_, ?_, ?_⟩
  · exact fun d st M Q x => jx_ev_st (jx_fok (by decide +kernel : decode (jx_mb 77) 0 = .ok (.aload_n 0, 1))) rfl rfl rfl
  · exact fun d lv st M Q => jx_k_gf (jx_fok (by decide +kernel : decode (jx_mb 77) 1 = .ok (.getfield 66, 3))) rfl rfl rfl
  · exact fun d lv M Q x => jx_k_ri (jx_fok (by decide +kernel : decode (jx_mb 77) 4 = .ok (.ireturn, 1))) rfl
theorem kX7_fault (d : Nat) (M : jx_M) (q : Int32 → jx_M → Prop) (a0 : Value) : jx_I d 77 [a0] M q ↔ jx_Ev d 77 0 [some a0] [] M (jx_qI q) := Iff.rfl
set_option maxRecDepth 100000 in
theorem eX7_many :
  (∀ (d : Nat) (st : List Value) (M : jx_M) (Q : jx_Po) (l0 : Option Value) (x : Int32), jx_Ev d 78 0 [l0, some (.int x)] st M Q ↔ jx_Ev d 78 1 [l0, some (.int x)] (.int x :: st) M Q) ∧
  (∀ (d : Nat) (lv : List (Option Value)) (st : List Value) (M : jx_M) (Q : jx_Po) (x : Int32), jx_Ev d 78 1 lv (.int x :: st) M Q ↔ (if x = 0 then jx_Ev d 78 36 lv st M Q else if x = 1 then jx_Ev d 78 44 lv st M Q else if x = 2 then jx_Ev d 78 52 lv st M Q else if x = 3 then jx_Ev d 78 60 lv st M Q else if x = 4 then jx_Ev d 78 68 lv st M Q else jx_Ev d 78 76 lv st M Q)) ∧
  (∀ (d : Nat) (st : List Value) (M : jx_M) (Q : jx_Po) (l1 : Option Value) (x : Nat), jx_Ev d 78 36 [some (.ref x), l1] st M Q ↔ jx_Ev d 78 37 [some (.ref x), l1] (.ref x :: st) M Q) ∧
  (∀ (d : Nat) (lv : List (Option Value)) (st : List Value) (M : jx_M) (Q : jx_Po), jx_Ev d 78 37 lv (.ref 0 :: st) M Q ↔ jx_Ev d 78 40 lv (jx_rv (M 0 6) :: st) M Q) ∧
  (∀ (d : Nat) (lv : List (Option Value)) (st : List Value) (M : jx_M) (Q : jx_Po) (k : Nat) (hk : jx_cl k = 1), jx_Ev d 78 40 lv (.ref k :: st) M Q ↔ jx_Ev d 78 43 lv (.int (M k 6) :: st) M Q) ∧
  (∀ (d : Nat) (lv : List (Option Value)) (M : jx_M) (Q : jx_Po) (x : Int32), jx_Ev d 78 43 lv [.int x] M Q ↔ Q [.int x] M) ∧
  (∀ (d : Nat) (st : List Value) (M : jx_M) (Q : jx_Po) (l1 : Option Value) (x : Nat), jx_Ev d 78 44 [some (.ref x), l1] st M Q ↔ jx_Ev d 78 45 [some (.ref x), l1] (.ref x :: st) M Q) ∧
  (∀ (d : Nat) (lv : List (Option Value)) (st : List Value) (M : jx_M) (Q : jx_Po), jx_Ev d 78 45 lv (.ref 0 :: st) M Q ↔ jx_Ev d 78 48 lv (jx_rv (M 0 6) :: st) M Q) ∧
  (∀ (d : Nat) (lv : List (Option Value)) (st : List Value) (M : jx_M) (Q : jx_Po) (k : Nat) (hk : jx_cl k = 1), jx_Ev d 78 48 lv (.ref k :: st) M Q ↔ jx_Ev d 78 51 lv (.int (M k 5) :: st) M Q) ∧
  (∀ (d : Nat) (lv : List (Option Value)) (M : jx_M) (Q : jx_Po) (x : Int32), jx_Ev d 78 51 lv [.int x] M Q ↔ Q [.int x] M) ∧
  (∀ (d : Nat) (st : List Value) (M : jx_M) (Q : jx_Po) (l1 : Option Value) (x : Nat), jx_Ev d 78 52 [some (.ref x), l1] st M Q ↔ jx_Ev d 78 53 [some (.ref x), l1] (.ref x :: st) M Q) ∧
  (∀ (d : Nat) (lv : List (Option Value)) (st : List Value) (M : jx_M) (Q : jx_Po), jx_Ev d 78 53 lv (.ref 0 :: st) M Q ↔ jx_Ev d 78 56 lv (jx_rv (M 0 6) :: st) M Q) ∧
  (∀ (d : Nat) (lv : List (Option Value)) (st : List Value) (M : jx_M) (Q : jx_Po) (k : Nat) (hk : jx_cl k = 1), jx_Ev d 78 56 lv (.ref k :: st) M Q ↔ jx_Ev d 78 59 lv (.int (M k 7) :: st) M Q) ∧
  (∀ (d : Nat) (lv : List (Option Value)) (M : jx_M) (Q : jx_Po) (x : Int32), jx_Ev d 78 59 lv [.int x] M Q ↔ Q [.int x] M) ∧
  (∀ (d : Nat) (st : List Value) (M : jx_M) (Q : jx_Po) (l1 : Option Value) (x : Nat), jx_Ev d 78 60 [some (.ref x), l1] st M Q ↔ jx_Ev d 78 61 [some (.ref x), l1] (.ref x :: st) M Q) ∧
  (∀ (d : Nat) (lv : List (Option Value)) (st : List Value) (M : jx_M) (Q : jx_Po), jx_Ev d 78 61 lv (.ref 0 :: st) M Q ↔ jx_Ev d 78 64 lv (jx_rv (M 0 6) :: st) M Q) ∧
  (∀ (d : Nat) (lv : List (Option Value)) (st : List Value) (M : jx_M) (Q : jx_Po) (k : Nat) (hk : jx_cl k = 1), jx_Ev d 78 64 lv (.ref k :: st) M Q ↔ jx_Ev d 78 67 lv (.int (M k 8) :: st) M Q) ∧
  (∀ (d : Nat) (lv : List (Option Value)) (M : jx_M) (Q : jx_Po) (x : Int32), jx_Ev d 78 67 lv [.int x] M Q ↔ Q [.int x] M) ∧
  (∀ (d : Nat) (st : List Value) (M : jx_M) (Q : jx_Po) (l1 : Option Value) (x : Nat), jx_Ev d 78 68 [some (.ref x), l1] st M Q ↔ jx_Ev d 78 69 [some (.ref x), l1] (.ref x :: st) M Q) ∧
  (∀ (d : Nat) (lv : List (Option Value)) (st : List Value) (M : jx_M) (Q : jx_Po), jx_Ev d 78 69 lv (.ref 0 :: st) M Q ↔ jx_Ev d 78 72 lv (.ref 3 :: st) M Q) ∧
  (∀ (d : Nat) (lv : List (Option Value)) (st : List Value) (M : jx_M) (Q : jx_Po), jx_Ev d 78 72 lv (.ref 3 :: st) M Q ↔ jx_Ev d 78 75 lv (.int (M 3 3) :: st) M Q) ∧
  (∀ (d : Nat) (lv : List (Option Value)) (M : jx_M) (Q : jx_Po) (x : Int32), jx_Ev d 78 75 lv [.int x] M Q ↔ Q [.int x] M) ∧
  (∀ (d : Nat) (lv : List (Option Value)) (st : List Value) (M : jx_M) (Q : jx_Po), jx_Ev d 78 76 lv st M Q ↔ jx_Ev d 78 78 lv (.int (-2) :: st) M Q) ∧
  (∀ (d : Nat) (lv : List (Option Value)) (M : jx_M) (Q : jx_Po) (x : Int32), jx_Ev d 78 78 lv [.int x] M Q ↔ Q [.int x] M) := by
  refine ⟨?_, ?_, ?_, ?_, ?_, ?_, ?_, ?_, ?_, ?_, ?_, ?_, ?_, ?_, ?_, ?_, ?_, ?_, ?_, ?_, ?_, ?_, ?_, ?_⟩
  · exact fun d st M Q l0 x => jx_ev_st (jx_fok (by decide +kernel : decode (jx_mb 78) 0 = .ok (.iload_n 1, 1))) rfl rfl rfl
  · intro d lv st M Q x
    by_cases h0 : x = 0
    · subst h0; rw [if_pos rfl]; exact jx_k_tsi (jx_fok (by decide +kernel : decode (jx_mb 78) 1 = .ok (.tableswitch 75 0 4 #[35, 43, 51, 59, 67], 35))) (by decide) rfl rfl
    rw [if_neg h0]
    by_cases h1 : x = 1
    · subst h1; rw [if_pos rfl]; exact jx_k_tsi (jx_fok (by decide +kernel : decode (jx_mb 78) 1 = .ok (.tableswitch 75 0 4 #[35, 43, 51, 59, 67], 35))) (by decide) rfl rfl
    rw [if_neg h1]
    by_cases h2 : x = 2
    · subst h2; rw [if_pos rfl]; exact jx_k_tsi (jx_fok (by decide +kernel : decode (jx_mb 78) 1 = .ok (.tableswitch 75 0 4 #[35, 43, 51, 59, 67], 35))) (by decide) rfl rfl
    rw [if_neg h2]
    by_cases h3 : x = 3
    · subst h3; rw [if_pos rfl]; exact jx_k_tsi (jx_fok (by decide +kernel : decode (jx_mb 78) 1 = .ok (.tableswitch 75 0 4 #[35, 43, 51, 59, 67], 35))) (by decide) rfl rfl
    rw [if_neg h3]
    by_cases h4 : x = 4
    · subst h4; rw [if_pos rfl]; exact jx_k_tsi (jx_fok (by decide +kernel : decode (jx_mb 78) 1 = .ok (.tableswitch 75 0 4 #[35, 43, 51, 59, 67], 35))) (by decide) rfl rfl
    rw [if_neg h4]
    exact jx_k_tso (jx_fok (by decide +kernel : decode (jx_mb 78) 1 = .ok (.tableswitch 75 0 4 #[35, 43, 51, 59, 67], 35))) (by have e := jx_tsx5 (x := x) h0 h1 h2 h3 h4; omega) rfl
  · exact fun d st M Q l1 x => jx_ev_st (jx_fok (by decide +kernel : decode (jx_mb 78) 36 = .ok (.aload_n 0, 1))) rfl rfl rfl
  · exact fun d lv st M Q => jx_k_gf (jx_fok (by decide +kernel : decode (jx_mb 78) 37 = .ok (.getfield 55, 3))) rfl rfl rfl
  · exact fun d lv st M Q k hk => jx_k_gf (jx_fok (by decide +kernel : decode (jx_mb 78) 40 = .ok (.getfield 92, 3))) rfl hk rfl
  · exact fun d lv M Q x => jx_k_ri (jx_fok (by decide +kernel : decode (jx_mb 78) 43 = .ok (.ireturn, 1))) rfl
  · exact fun d st M Q l1 x => jx_ev_st (jx_fok (by decide +kernel : decode (jx_mb 78) 44 = .ok (.aload_n 0, 1))) rfl rfl rfl
  · exact fun d lv st M Q => jx_k_gf (jx_fok (by decide +kernel : decode (jx_mb 78) 45 = .ok (.getfield 55, 3))) rfl rfl rfl
  · exact fun d lv st M Q k hk => jx_k_gf (jx_fok (by decide +kernel : decode (jx_mb 78) 48 = .ok (.getfield 247, 3))) rfl hk rfl
  · exact fun d lv M Q x => jx_k_ri (jx_fok (by decide +kernel : decode (jx_mb 78) 51 = .ok (.ireturn, 1))) rfl
  · exact fun d st M Q l1 x => jx_ev_st (jx_fok (by decide +kernel : decode (jx_mb 78) 52 = .ok (.aload_n 0, 1))) rfl rfl rfl
  · exact fun d lv st M Q => jx_k_gf (jx_fok (by decide +kernel : decode (jx_mb 78) 53 = .ok (.getfield 55, 3))) rfl rfl rfl
  · exact fun d lv st M Q k hk => jx_k_gf (jx_fok (by decide +kernel : decode (jx_mb 78) 56 = .ok (.getfield 127, 3))) rfl hk rfl
  · exact fun d lv M Q x => jx_k_ri (jx_fok (by decide +kernel : decode (jx_mb 78) 59 = .ok (.ireturn, 1))) rfl
  · exact fun d st M Q l1 x => jx_ev_st (jx_fok (by decide +kernel : decode (jx_mb 78) 60 = .ok (.aload_n 0, 1))) rfl rfl rfl
  · exact fun d lv st M Q => jx_k_gf (jx_fok (by decide +kernel : decode (jx_mb 78) 61 = .ok (.getfield 55, 3))) rfl rfl rfl
  · exact fun d lv st M Q k hk => jx_k_gf (jx_fok (by decide +kernel : decode (jx_mb 78) 64 = .ok (.getfield 250, 3))) rfl hk rfl
  · exact fun d lv M Q x => jx_k_ri (jx_fok (by decide +kernel : decode (jx_mb 78) 67 = .ok (.ireturn, 1))) rfl
  · exact fun d st M Q l1 x => jx_ev_st (jx_fok (by decide +kernel : decode (jx_mb 78) 68 = .ok (.aload_n 0, 1))) rfl rfl rfl
  · exact fun d lv st M Q => jx_k_gf (jx_fok (by decide +kernel : decode (jx_mb 78) 69 = .ok (.getfield 27, 3))) rfl rfl rfl
  · exact fun d lv st M Q => jx_k_gf (jx_fok (by decide +kernel : decode (jx_mb 78) 72 = .ok (.getfield 95, 3))) rfl rfl rfl
  · exact fun d lv M Q x => jx_k_ri (jx_fok (by decide +kernel : decode (jx_mb 78) 75 = .ok (.ireturn, 1))) rfl
  · exact fun d lv st M Q => jx_ev_st (jx_fok (by decide +kernel : decode (jx_mb 78) 76 = .ok (.bipush (-2), 2))) rfl rfl rfl
  · exact fun d lv M Q x => jx_k_ri (jx_fok (by decide +kernel : decode (jx_mb 78) 78 = .ok (.ireturn, 1))) rfl
theorem kX7_many (d : Nat) (M : jx_M) (q : Int32 → jx_M → Prop) (a0 a1 : Value) : jx_I d 78 [a0, a1] M q ↔ jx_Ev d 78 0 [some a0, some a1] [] M (jx_qI q) := Iff.rfl
set_option maxRecDepth 100000 in
theorem eX7_isSheet :
  (∀ (d : Nat) (st : List Value) (M : jx_M) (Q : jx_Po) (x : Int32), jx_Ev d 79 0 [some (.int x)] st M Q ↔ jx_Ev d 79 1 [some (.int x)] (.int x :: st) M Q) ∧
  (∀ (d : Nat) (lv : List (Option Value)) (st : List Value) (M : jx_M) (Q : jx_Po) (x : Int32), jx_Ev d 79 1 lv (.int x :: st) M Q ↔ (if x < 0 then jx_Ev d 79 13 lv st M Q else jx_Ev d 79 4 lv st M Q)) ∧
  (∀ (d : Nat) (st : List Value) (M : jx_M) (Q : jx_Po) (x : Int32), jx_Ev d 79 4 [some (.int x)] st M Q ↔ jx_Ev d 79 5 [some (.int x)] (.int x :: st) M Q) ∧
  (∀ (d : Nat) (lv : List (Option Value)) (st : List Value) (M : jx_M) (Q : jx_Po), jx_Ev d 79 5 lv st M Q ↔ jx_Ev d 79 6 lv (.int 4 :: st) M Q) ∧
  (∀ (d : Nat) (lv : List (Option Value)) (st : List Value) (M : jx_M) (Q : jx_Po) (x z : Int32), jx_Ev d 79 6 lv (.int z :: .int x :: st) M Q ↔ (if z ≤ x then jx_Ev d 79 13 lv st M Q else jx_Ev d 79 9 lv st M Q)) ∧
  (∀ (d : Nat) (lv : List (Option Value)) (st : List Value) (M : jx_M) (Q : jx_Po), jx_Ev d 79 9 lv st M Q ↔ jx_Ev d 79 10 lv (.int 1 :: st) M Q) ∧
  (∀ (d : Nat) (lv : List (Option Value)) (st : List Value) (M : jx_M) (Q : jx_Po), jx_Ev d 79 10 lv st M Q ↔ jx_Ev d 79 14 lv st M Q) ∧
  (∀ (d : Nat) (lv : List (Option Value)) (st : List Value) (M : jx_M) (Q : jx_Po), jx_Ev d 79 13 lv st M Q ↔ jx_Ev d 79 14 lv (.int 0 :: st) M Q) ∧
  (∀ (d : Nat) (lv : List (Option Value)) (M : jx_M) (Q : jx_Po) (x : Int32), jx_Ev d 79 14 lv [.int x] M Q ↔ ((x = 0 ∨ x = 1) ∧ Q [.int x] M)) := by
  refine ⟨?_, ?_, ?_, ?_, ?_, ?_, ?_, ?_, ?_⟩
  · exact fun d st M Q x => jx_ev_st (jx_fok (by decide +kernel : decode (jx_mb 79) 0 = .ok (.iload_n 0, 1))) rfl rfl rfl
  · exact fun d lv st M Q x => jx_k_b1 (jx_fok (by decide +kernel : decode (jx_mb 79) 1 = .ok (.ifCond .lt 12, 3))) rfl jx_hLt
  · exact fun d st M Q x => jx_ev_st (jx_fok (by decide +kernel : decode (jx_mb 79) 4 = .ok (.iload_n 0, 1))) rfl rfl rfl
  · exact fun d lv st M Q => jx_ev_st (jx_fok (by decide +kernel : decode (jx_mb 79) 5 = .ok (.iconst 4, 1))) rfl rfl rfl
  · exact fun d lv st M Q x z => jx_k_b2 (jx_fok (by decide +kernel : decode (jx_mb 79) 6 = .ok (.if_icmp .ge 7, 3))) rfl jx_hGe
  · exact fun d lv st M Q => jx_ev_st (jx_fok (by decide +kernel : decode (jx_mb 79) 9 = .ok (.iconst 1, 1))) rfl rfl rfl
  · exact fun d lv st M Q => jx_k_goto (jx_fok (by decide +kernel : decode (jx_mb 79) 10 = .ok (.goto 4, 3))) rfl
  · exact fun d lv st M Q => jx_ev_st (jx_fok (by decide +kernel : decode (jx_mb 79) 13 = .ok (.iconst 0, 1))) rfl rfl rfl
  · exact fun d lv M Q x => jx_k_rz (jx_fok (by decide +kernel : decode (jx_mb 79) 14 = .ok (.ireturn, 1))) rfl
theorem kX7_isSheet (d : Nat) (M : jx_M) (q : Int32 → jx_M → Prop) (a0 : Value) : jx_I d 79 [a0] M q ↔ jx_Ev d 79 0 [some a0] [] M (jx_qI q) := Iff.rfl
set_option maxRecDepth 100000 in
theorem eX7_isLane :
  (∀ (d : Nat) (st : List Value) (M : jx_M) (Q : jx_Po) (x : Int32), jx_Ev d 80 0 [some (.int x)] st M Q ↔ jx_Ev d 80 1 [some (.int x)] (.int x :: st) M Q) ∧
  (∀ (d : Nat) (lv : List (Option Value)) (st : List Value) (M : jx_M) (Q : jx_Po) (x : Int32), jx_Ev d 80 1 lv (.int x :: st) M Q ↔ (if x < 0 then jx_Ev d 80 13 lv st M Q else jx_Ev d 80 4 lv st M Q)) ∧
  (∀ (d : Nat) (st : List Value) (M : jx_M) (Q : jx_Po) (x : Int32), jx_Ev d 80 4 [some (.int x)] st M Q ↔ jx_Ev d 80 5 [some (.int x)] (.int x :: st) M Q) ∧
  (∀ (d : Nat) (lv : List (Option Value)) (st : List Value) (M : jx_M) (Q : jx_Po), jx_Ev d 80 5 lv st M Q ↔ jx_Ev d 80 6 lv (.int 2 :: st) M Q) ∧
  (∀ (d : Nat) (lv : List (Option Value)) (st : List Value) (M : jx_M) (Q : jx_Po) (x z : Int32), jx_Ev d 80 6 lv (.int z :: .int x :: st) M Q ↔ (if z < x then jx_Ev d 80 13 lv st M Q else jx_Ev d 80 9 lv st M Q)) ∧
  (∀ (d : Nat) (lv : List (Option Value)) (st : List Value) (M : jx_M) (Q : jx_Po), jx_Ev d 80 9 lv st M Q ↔ jx_Ev d 80 10 lv (.int 1 :: st) M Q) ∧
  (∀ (d : Nat) (lv : List (Option Value)) (st : List Value) (M : jx_M) (Q : jx_Po), jx_Ev d 80 10 lv st M Q ↔ jx_Ev d 80 14 lv st M Q) ∧
  (∀ (d : Nat) (lv : List (Option Value)) (st : List Value) (M : jx_M) (Q : jx_Po), jx_Ev d 80 13 lv st M Q ↔ jx_Ev d 80 14 lv (.int 0 :: st) M Q) ∧
  (∀ (d : Nat) (lv : List (Option Value)) (M : jx_M) (Q : jx_Po) (x : Int32), jx_Ev d 80 14 lv [.int x] M Q ↔ ((x = 0 ∨ x = 1) ∧ Q [.int x] M)) := by
  refine ⟨?_, ?_, ?_, ?_, ?_, ?_, ?_, ?_, ?_⟩
  · exact fun d st M Q x => jx_ev_st (jx_fok (by decide +kernel : decode (jx_mb 80) 0 = .ok (.iload_n 0, 1))) rfl rfl rfl
  · exact fun d lv st M Q x => jx_k_b1 (jx_fok (by decide +kernel : decode (jx_mb 80) 1 = .ok (.ifCond .lt 12, 3))) rfl jx_hLt
  · exact fun d st M Q x => jx_ev_st (jx_fok (by decide +kernel : decode (jx_mb 80) 4 = .ok (.iload_n 0, 1))) rfl rfl rfl
  · exact fun d lv st M Q => jx_ev_st (jx_fok (by decide +kernel : decode (jx_mb 80) 5 = .ok (.iconst 2, 1))) rfl rfl rfl
  · exact fun d lv st M Q x z => jx_k_b2 (jx_fok (by decide +kernel : decode (jx_mb 80) 6 = .ok (.if_icmp .gt 7, 3))) rfl jx_hGt
  · exact fun d lv st M Q => jx_ev_st (jx_fok (by decide +kernel : decode (jx_mb 80) 9 = .ok (.iconst 1, 1))) rfl rfl rfl
  · exact fun d lv st M Q => jx_k_goto (jx_fok (by decide +kernel : decode (jx_mb 80) 10 = .ok (.goto 4, 3))) rfl
  · exact fun d lv st M Q => jx_ev_st (jx_fok (by decide +kernel : decode (jx_mb 80) 13 = .ok (.iconst 0, 1))) rfl rfl rfl
  · exact fun d lv M Q x => jx_k_rz (jx_fok (by decide +kernel : decode (jx_mb 80) 14 = .ok (.ireturn, 1))) rfl
theorem kX7_isLane (d : Nat) (M : jx_M) (q : Int32 → jx_M → Prop) (a0 : Value) : jx_I d 80 [a0] M q ↔ jx_Ev d 80 0 [some a0] [] M (jx_qI q) := Iff.rfl
set_option maxRecDepth 100000 in
theorem eX7_isMonth :
  (∀ (d : Nat) (st : List Value) (M : jx_M) (Q : jx_Po) (x : Int32), jx_Ev d 81 0 [some (.int x)] st M Q ↔ jx_Ev d 81 1 [some (.int x)] (.int x :: st) M Q) ∧
  (∀ (d : Nat) (lv : List (Option Value)) (st : List Value) (M : jx_M) (Q : jx_Po) (x : Int32), jx_Ev d 81 1 lv (.int x :: st) M Q ↔ (if x < 0 then jx_Ev d 81 14 lv st M Q else jx_Ev d 81 4 lv st M Q)) ∧
  (∀ (d : Nat) (st : List Value) (M : jx_M) (Q : jx_Po) (x : Int32), jx_Ev d 81 4 [some (.int x)] st M Q ↔ jx_Ev d 81 5 [some (.int x)] (.int x :: st) M Q) ∧
  (∀ (d : Nat) (lv : List (Option Value)) (st : List Value) (M : jx_M) (Q : jx_Po), jx_Ev d 81 5 lv st M Q ↔ jx_Ev d 81 7 lv (.int 9 :: st) M Q) ∧
  (∀ (d : Nat) (lv : List (Option Value)) (st : List Value) (M : jx_M) (Q : jx_Po) (x z : Int32), jx_Ev d 81 7 lv (.int z :: .int x :: st) M Q ↔ (if z < x then jx_Ev d 81 14 lv st M Q else jx_Ev d 81 10 lv st M Q)) ∧
  (∀ (d : Nat) (lv : List (Option Value)) (st : List Value) (M : jx_M) (Q : jx_Po), jx_Ev d 81 10 lv st M Q ↔ jx_Ev d 81 11 lv (.int 1 :: st) M Q) ∧
  (∀ (d : Nat) (lv : List (Option Value)) (st : List Value) (M : jx_M) (Q : jx_Po), jx_Ev d 81 11 lv st M Q ↔ jx_Ev d 81 15 lv st M Q) ∧
  (∀ (d : Nat) (lv : List (Option Value)) (st : List Value) (M : jx_M) (Q : jx_Po), jx_Ev d 81 14 lv st M Q ↔ jx_Ev d 81 15 lv (.int 0 :: st) M Q) ∧
  (∀ (d : Nat) (lv : List (Option Value)) (M : jx_M) (Q : jx_Po) (x : Int32), jx_Ev d 81 15 lv [.int x] M Q ↔ ((x = 0 ∨ x = 1) ∧ Q [.int x] M)) := by
  refine ⟨?_, ?_, ?_, ?_, ?_, ?_, ?_, ?_, ?_⟩
  · exact fun d st M Q x => jx_ev_st (jx_fok (by decide +kernel : decode (jx_mb 81) 0 = .ok (.iload_n 0, 1))) rfl rfl rfl
  · exact fun d lv st M Q x => jx_k_b1 (jx_fok (by decide +kernel : decode (jx_mb 81) 1 = .ok (.ifCond .lt 13, 3))) rfl jx_hLt
  · exact fun d st M Q x => jx_ev_st (jx_fok (by decide +kernel : decode (jx_mb 81) 4 = .ok (.iload_n 0, 1))) rfl rfl rfl
  · exact fun d lv st M Q => jx_ev_st (jx_fok (by decide +kernel : decode (jx_mb 81) 5 = .ok (.bipush 9, 2))) rfl rfl rfl
  · exact fun d lv st M Q x z => jx_k_b2 (jx_fok (by decide +kernel : decode (jx_mb 81) 7 = .ok (.if_icmp .gt 7, 3))) rfl jx_hGt
  · exact fun d lv st M Q => jx_ev_st (jx_fok (by decide +kernel : decode (jx_mb 81) 10 = .ok (.iconst 1, 1))) rfl rfl rfl
  · exact fun d lv st M Q => jx_k_goto (jx_fok (by decide +kernel : decode (jx_mb 81) 11 = .ok (.goto 4, 3))) rfl
  · exact fun d lv st M Q => jx_ev_st (jx_fok (by decide +kernel : decode (jx_mb 81) 14 = .ok (.iconst 0, 1))) rfl rfl rfl
  · exact fun d lv M Q x => jx_k_rz (jx_fok (by decide +kernel : decode (jx_mb 81) 15 = .ok (.ireturn, 1))) rfl
theorem kX7_isMonth (d : Nat) (M : jx_M) (q : Int32 → jx_M → Prop) (a0 : Value) : jx_I d 81 [a0] M q ↔ jx_Ev d 81 0 [some a0] [] M (jx_qI q) := Iff.rfl
set_option maxRecDepth 100000 in
theorem eX7_faultAnswer :
  (∀ (d : Nat) (st : List Value) (M : jx_M) (Q : jx_Po) (l1 : Option Value) (x : Nat), jx_Ev d 82 0 [some (.ref x), l1] st M Q ↔ jx_Ev d 82 1 [some (.ref x), l1] (.ref x :: st) M Q) ∧
  (∀ (d : Nat) (st : List Value) (M : jx_M) (Q : jx_Po) (l0 : Option Value) (x : Int32), jx_Ev d 82 1 [l0, some (.int x)] st M Q ↔ jx_Ev d 82 2 [l0, some (.int x)] (.int x :: st) M Q) ∧
  (∀ (d : Nat) (lv : List (Option Value)) (st : List Value) (M : jx_M) (Q : jx_Po) (x : Int32), jx_Ev d 82 2 lv (.int x :: .ref 0 :: st) M Q ↔ jx_Ev d 82 5 lv st (jx_up M 0 9 x) Q) ∧
  (∀ (d : Nat) (lv : List (Option Value)) (st : List Value) (M : jx_M) (Q : jx_Po), jx_Ev d 82 5 lv st M Q ↔ jx_Ev d 82 7 lv (.int (-10) :: st) M Q) ∧
  (∀ (d : Nat) (st : List Value) (M : jx_M) (Q : jx_Po) (l0 : Option Value) (x : Int32), jx_Ev d 82 7 [l0, some (.int x)] st M Q ↔ jx_Ev d 82 8 [l0, some (.int x)] (.int x :: st) M Q) ∧
  (∀ (d : Nat) (lv : List (Option Value)) (st : List Value) (M : jx_M) (Q : jx_Po) (x z : Int32), jx_Ev d 82 8 lv (.int z :: .int x :: st) M Q ↔ jx_Ev d 82 9 lv (.int (x - z) :: st) M Q) ∧
  (∀ (d : Nat) (lv : List (Option Value)) (M : jx_M) (Q : jx_Po) (x : Int32), jx_Ev d 82 9 lv [.int x] M Q ↔ Q [.int x] M) := by
  refine ⟨?_, ?_, ?_, ?_, ?_, ?_, ?_⟩
  · exact fun d st M Q l1 x => jx_ev_st (jx_fok (by decide +kernel : decode (jx_mb 82) 0 = .ok (.aload_n 0, 1))) rfl rfl rfl
  · exact fun d st M Q l0 x => jx_ev_st (jx_fok (by decide +kernel : decode (jx_mb 82) 1 = .ok (.iload_n 1, 1))) rfl rfl rfl
  · exact fun d lv st M Q x => jx_k_pf0 (jx_fok (by decide +kernel : decode (jx_mb 82) 2 = .ok (.putfield 66, 3))) rfl rfl rfl
  · exact fun d lv st M Q => jx_ev_st (jx_fok (by decide +kernel : decode (jx_mb 82) 5 = .ok (.bipush (-10), 2))) rfl rfl rfl
  · exact fun d st M Q l0 x => jx_ev_st (jx_fok (by decide +kernel : decode (jx_mb 82) 7 = .ok (.iload_n 1, 1))) rfl rfl rfl
  · exact fun d lv st M Q x z => jx_ev_st (jx_fok (by decide +kernel : decode (jx_mb 82) 8 = .ok (.isub, 1))) rfl rfl rfl
  · exact fun d lv M Q x => jx_k_ri (jx_fok (by decide +kernel : decode (jx_mb 82) 9 = .ok (.ireturn, 1))) rfl
theorem kX7_faultAnswer (d : Nat) (M : jx_M) (q : Int32 → jx_M → Prop) (a0 a1 : Value) : jx_I d 82 [a0, a1] M q ↔ jx_Ev d 82 0 [some a0, some a1] [] M (jx_qI q) := Iff.rfl
