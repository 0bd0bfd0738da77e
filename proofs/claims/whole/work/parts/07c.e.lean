set_option maxRecDepth 100000 in
theorem eX7_office :
  (∀ (d : Nat) (st : List Value) (M : jx_M) (Q : jx_Po) (l1 l2 l3 l4 l5 l6 : Option Value) (x : Nat), jx_Ev d 43 0 [some (.ref x), l1, l2, l3, l4, l5, l6] st M Q ↔ jx_Ev d 43 1 [some (.ref x), l1, l2, l3, l4, l5, l6] (.ref x :: st) M Q) ∧
  (∀ (d : Nat) (lv : List (Option Value)) (st : List Value) (M : jx_M) (Q : jx_Po), jx_Ev d 43 1 lv st M Q ↔ jx_Ev d 43 2 lv (.int 0 :: st) M Q) ∧
  (∀ (d : Nat) (lv : List (Option Value)) (st : List Value) (M : jx_M) (Q : jx_Po) (x : Int32), jx_Ev d 43 2 lv (.int x :: .ref 0 :: st) M Q ↔ jx_Ev d 43 5 lv st (jx_up M 0 9 x) Q) ∧
  (∀ (d : Nat) (st : List Value) (M : jx_M) (Q : jx_Po) (l0 l2 l3 l4 l5 l6 : Option Value) (x : Int32), jx_Ev d 43 5 [l0, some (.int x), l2, l3, l4, l5, l6] st M Q ↔ jx_Ev d 43 6 [l0, some (.int x), l2, l3, l4, l5, l6] (.int x :: st) M Q) ∧
  (∀ (d : Nat) (lv : List (Option Value)) (M : jx_M) (Q : jx_Po) (a0 : Int32), jx_Ev (d + 1) 43 6 lv [.int a0] M Q ↔ jx_I d 80 [.int a0] M (fun x M => jx_Ev (d + 1) 43 9 lv (.int x :: []) M Q)) ∧
  (∀ (d : Nat) (lv : List (Option Value)) (st : List Value) (M : jx_M) (Q : jx_Po) (x : Int32), jx_Ev d 43 9 lv (.int x :: st) M Q ↔ (if x = 0 then jx_Ev d 43 12 lv st M Q else jx_Ev d 43 14 lv st M Q)) ∧
  (∀ (d : Nat) (lv : List (Option Value)) (st : List Value) (M : jx_M) (Q : jx_Po), jx_Ev d 43 12 lv st M Q ↔ jx_Ev d 43 13 lv (.int (-1) :: st) M Q) ∧
  (∀ (d : Nat) (lv : List (Option Value)) (M : jx_M) (Q : jx_Po) (x : Int32), jx_Ev d 43 13 lv [.int x] M Q ↔ Q [.int x] M) ∧
  (∀ (d : Nat) (st : List Value) (M : jx_M) (Q : jx_Po) (l0 l1 l3 l4 l5 l6 : Option Value) (x : Int32), jx_Ev d 43 14 [l0, l1, some (.int x), l3, l4, l5, l6] st M Q ↔ jx_Ev d 43 15 [l0, l1, some (.int x), l3, l4, l5, l6] (.int x :: st) M Q) ∧
  (∀ (d : Nat) (lv : List (Option Value)) (M : jx_M) (Q : jx_Po) (a0 : Int32), jx_Ev (d + 1) 43 15 lv [.int a0] M Q ↔ jx_I d 81 [.int a0] M (fun x M => jx_Ev (d + 1) 43 18 lv (.int x :: []) M Q)) ∧
  (∀ (d : Nat) (lv : List (Option Value)) (st : List Value) (M : jx_M) (Q : jx_Po) (x : Int32), jx_Ev d 43 18 lv (.int x :: st) M Q ↔ (if x = 0 then jx_Ev d 43 21 lv st M Q else jx_Ev d 43 24 lv st M Q)) ∧
  (∀ (d : Nat) (lv : List (Option Value)) (st : List Value) (M : jx_M) (Q : jx_Po), jx_Ev d 43 21 lv st M Q ↔ jx_Ev d 43 23 lv (.int (-2) :: st) M Q) ∧
  (∀ (d : Nat) (lv : List (Option Value)) (M : jx_M) (Q : jx_Po) (x : Int32), jx_Ev d 43 23 lv [.int x] M Q ↔ Q [.int x] M) ∧
  (∀ (d : Nat) (st : List Value) (M : jx_M) (Q : jx_Po) (l1 l2 l3 l4 l5 l6 : Option Value) (x : Nat), jx_Ev d 43 24 [some (.ref x), l1, l2, l3, l4, l5, l6] st M Q ↔ jx_Ev d 43 25 [some (.ref x), l1, l2, l3, l4, l5, l6] (.ref x :: st) M Q) ∧
  (∀ (d : Nat) (lv : List (Option Value)) (st : List Value) (M : jx_M) (Q : jx_Po), jx_Ev d 43 25 lv (.ref 0 :: st) M Q ↔ jx_Ev d 43 28 lv (.ref 1 :: st) M Q) ∧
  (∀ (d : Nat) (st : List Value) (M : jx_M) (Q : jx_Po) (l0 l2 l3 l4 l5 l6 : Option Value) (x : Int32), jx_Ev d 43 28 [l0, some (.int x), l2, l3, l4, l5, l6] st M Q ↔ jx_Ev d 43 29 [l0, some (.int x), l2, l3, l4, l5, l6] (.int x :: st) M Q) ∧
  (∀ (d : Nat) (lv : List (Option Value)) (st : List Value) (M : jx_M) (Q : jx_Po) (x : Int32), jx_Ev d 43 29 lv (.int x :: .ref 1 :: st) M Q ↔ (vp_in x 4 ∧ jx_Ev d 43 30 lv (.ref (jx_sp x) :: st) M Q)) ∧
  (∀ (d : Nat) (st : List Value) (M : jx_M) (Q : jx_Po) (l0 l1 l3 l4 l5 l6 : Option Value) (x : Int32), jx_Ev d 43 30 [l0, l1, some (.int x), l3, l4, l5, l6] st M Q ↔ jx_Ev d 43 31 [l0, l1, some (.int x), l3, l4, l5, l6] (.int x :: st) M Q) ∧
  (∀ (d : Nat) (st : List Value) (M : jx_M) (Q : jx_Po) (l0 l1 l2 l4 l5 l6 : Option Value) (x : Int32), jx_Ev d 43 31 [l0, l1, l2, some (.int x), l4, l5, l6] st M Q ↔ jx_Ev d 43 32 [l0, l1, l2, some (.int x), l4, l5, l6] (.int x :: st) M Q) ∧
  (∀ (d : Nat) (st : List Value) (M : jx_M) (Q : jx_Po) (l0 l1 l2 l3 l5 l6 : Option Value) (x : Int32), jx_Ev d 43 32 [l0, l1, l2, l3, some (.int x), l5, l6] st M Q ↔ jx_Ev d 43 34 [l0, l1, l2, l3, some (.int x), l5, l6] (.int x :: st) M Q) ∧
  (∀ (d : Nat) (lv : List (Option Value)) (M : jx_M) (Q : jx_Po) (a0 : Int32) (a1 : Int32) (a2 : Int32) (a3 : Nat) (hk : jx_cl a3 = 4), jx_Ev (d + 1) 43 34 lv [.int a0, .int a1, .int a2, .ref a3] M Q ↔ jx_I d 22 [.ref a3, .int a2, .int a1, .int a0] M (fun x M => jx_Ev (d + 1) 43 37 lv (.int x :: []) M Q)) ∧
  (∀ (d : Nat) (st : List Value) (M : jx_M) (Q : jx_Po) (l0 l1 l2 l3 l4 l5 l6 : Option Value) (x : Int32), jx_Ev d 43 37 [l0, l1, l2, l3, l4, l5, l6] (.int x :: st) M Q ↔ jx_Ev d 43 39 [l0, l1, l2, l3, l4, some (.int x), l6] st M Q) ∧
  (∀ (d : Nat) (st : List Value) (M : jx_M) (Q : jx_Po) (l0 l1 l2 l3 l4 l6 : Option Value) (x : Int32), jx_Ev d 43 39 [l0, l1, l2, l3, l4, some (.int x), l6] st M Q ↔ jx_Ev d 43 41 [l0, l1, l2, l3, l4, some (.int x), l6] (.int x :: st) M Q) ∧
  (∀ (d : Nat) (lv : List (Option Value)) (st : List Value) (M : jx_M) (Q : jx_Po) (x : Int32), jx_Ev d 43 41 lv (.int x :: st) M Q ↔ (if x = 0 then jx_Ev d 43 51 lv st M Q else jx_Ev d 43 44 lv st M Q)) ∧
  (∀ (d : Nat) (st : List Value) (M : jx_M) (Q : jx_Po) (l1 l2 l3 l4 l5 l6 : Option Value) (x : Nat), jx_Ev d 43 44 [some (.ref x), l1, l2, l3, l4, l5, l6] st M Q ↔ jx_Ev d 43 45 [some (.ref x), l1, l2, l3, l4, l5, l6] (.ref x :: st) M Q) ∧
  (∀ (d : Nat) (st : List Value) (M : jx_M) (Q : jx_Po) (l0 l1 l2 l3 l4 l6 : Option Value) (x : Int32), jx_Ev d 43 45 [l0, l1, l2, l3, l4, some (.int x), l6] st M Q ↔ jx_Ev d 43 47 [l0, l1, l2, l3, l4, some (.int x), l6] (.int x :: st) M Q) ∧
  (∀ (d : Nat) (lv : List (Option Value)) (M : jx_M) (Q : jx_Po) (a0 : Int32), jx_Ev (d + 1) 43 47 lv [.int a0, .ref 0] M Q ↔ jx_I d 83 [.ref 0, .int a0] M (fun x M => jx_Ev (d + 1) 43 50 lv (.int x :: []) M Q)) ∧
  (∀ (d : Nat) (lv : List (Option Value)) (M : jx_M) (Q : jx_Po) (x : Int32), jx_Ev d 43 50 lv [.int x] M Q ↔ Q [.int x] M) ∧
  (∀ (d : Nat) (st : List Value) (M : jx_M) (Q : jx_Po) (l1 l2 l3 l4 l5 l6 : Option Value) (x : Nat), jx_Ev d 43 51 [some (.ref x), l1, l2, l3, l4, l5, l6] st M Q ↔ jx_Ev d 43 52 [some (.ref x), l1, l2, l3, l4, l5, l6] (.ref x :: st) M Q) ∧
  (∀ (d : Nat) (lv : List (Option Value)) (st : List Value) (M : jx_M) (Q : jx_Po), jx_Ev d 43 52 lv (.ref 0 :: st) M Q ↔ jx_Ev d 43 55 lv (.ref 2 :: st) M Q) ∧
  (∀ (d : Nat) (st : List Value) (M : jx_M) (Q : jx_Po) (l1 l2 l3 l4 l5 l6 : Option Value) (x : Nat), jx_Ev d 43 55 [some (.ref x), l1, l2, l3, l4, l5, l6] st M Q ↔ jx_Ev d 43 56 [some (.ref x), l1, l2, l3, l4, l5, l6] (.ref x :: st) M Q) ∧
  (∀ (d : Nat) (lv : List (Option Value)) (st : List Value) (M : jx_M) (Q : jx_Po), jx_Ev d 43 56 lv (.ref 0 :: st) M Q ↔ jx_Ev d 43 59 lv (.ref 1 :: st) M Q) ∧
  (∀ (d : Nat) (st : List Value) (M : jx_M) (Q : jx_Po) (l0 l2 l3 l4 l5 l6 : Option Value) (x : Int32), jx_Ev d 43 59 [l0, some (.int x), l2, l3, l4, l5, l6] st M Q ↔ jx_Ev d 43 60 [l0, some (.int x), l2, l3, l4, l5, l6] (.int x :: st) M Q) ∧
  (∀ (d : Nat) (lv : List (Option Value)) (st : List Value) (M : jx_M) (Q : jx_Po) (x : Int32), jx_Ev d 43 60 lv (.int x :: .ref 1 :: st) M Q ↔ (vp_in x 4 ∧ jx_Ev d 43 61 lv (.ref (jx_sp x) :: st) M Q)) ∧
  (∀ (d : Nat) (st : List Value) (M : jx_M) (Q : jx_Po) (l0 l1 l2 l4 l5 l6 : Option Value) (x : Int32), jx_Ev d 43 61 [l0, l1, l2, some (.int x), l4, l5, l6] st M Q ↔ jx_Ev d 43 62 [l0, l1, l2, some (.int x), l4, l5, l6] (.int x :: st) M Q) ∧
  (∀ (d : Nat) (st : List Value) (M : jx_M) (Q : jx_Po) (l0 l1 l2 l3 l5 l6 : Option Value) (x : Int32), jx_Ev d 43 62 [l0, l1, l2, l3, some (.int x), l5, l6] st M Q ↔ jx_Ev d 43 64 [l0, l1, l2, l3, some (.int x), l5, l6] (.int x :: st) M Q) ∧
  (∀ (d : Nat) (st : List Value) (M : jx_M) (Q : jx_Po) (l1 l2 l3 l4 l5 l6 : Option Value) (x : Nat), jx_Ev d 43 64 [some (.ref x), l1, l2, l3, l4, l5, l6] st M Q ↔ jx_Ev d 43 65 [some (.ref x), l1, l2, l3, l4, l5, l6] (.ref x :: st) M Q) ∧
  (∀ (d : Nat) (lv : List (Option Value)) (st : List Value) (M : jx_M) (Q : jx_Po), jx_Ev d 43 65 lv (.ref 0 :: st) M Q ↔ jx_Ev d 43 68 lv (jx_rv (M 0 7) :: st) M Q) ∧
  (∀ (d : Nat) (lv : List (Option Value)) (M : jx_M) (Q : jx_Po) (a0 : Nat) (a1 : Int32) (a2 : Int32) (a3 : Nat), jx_Ev (d + 1) 43 68 lv [.ref a0, .int a1, .int a2, .ref a3, .ref 2] M Q ↔ jx_I d 32 [.ref 2, .ref a3, .int a2, .int a1, .ref a0] M (fun x M => jx_Ev (d + 1) 43 71 lv (.int x :: []) M Q)) ∧
  (∀ (d : Nat) (st : List Value) (M : jx_M) (Q : jx_Po) (l0 l1 l2 l3 l4 l5 l6 : Option Value) (x : Int32), jx_Ev d 43 71 [l0, l1, l2, l3, l4, l5, l6] (.int x :: st) M Q ↔ jx_Ev d 43 73 [l0, l1, l2, l3, l4, l5, some (.int x)] st M Q) ∧
  (∀ (d : Nat) (st : List Value) (M : jx_M) (Q : jx_Po) (l0 l1 l2 l3 l4 l5 : Option Value) (x : Int32), jx_Ev d 43 73 [l0, l1, l2, l3, l4, l5, some (.int x)] st M Q ↔ jx_Ev d 43 75 [l0, l1, l2, l3, l4, l5, some (.int x)] (.int x :: st) M Q) ∧
  (∀ (d : Nat) (lv : List (Option Value)) (st : List Value) (M : jx_M) (Q : jx_Po), jx_Ev d 43 75 lv st M Q ↔ jx_Ev d 43 77 lv (.int (-9) :: st) M Q) ∧
  (∀ (d : Nat) (lv : List (Option Value)) (st : List Value) (M : jx_M) (Q : jx_Po) (x z : Int32), jx_Ev d 43 77 lv (.int z :: .int x :: st) M Q ↔ (if x = z then jx_Ev d 43 86 lv st M Q else jx_Ev d 43 80 lv st M Q)) ∧
  (∀ (d : Nat) (lv : List (Option Value)) (st : List Value) (M : jx_M) (Q : jx_Po), jx_Ev d 43 80 lv st M Q ↔ jx_Ev d 43 82 lv (.int (-100) :: st) M Q) ∧
  (∀ (d : Nat) (st : List Value) (M : jx_M) (Q : jx_Po) (l0 l1 l2 l3 l4 l5 : Option Value) (x : Int32), jx_Ev d 43 82 [l0, l1, l2, l3, l4, l5, some (.int x)] st M Q ↔ jx_Ev d 43 84 [l0, l1, l2, l3, l4, l5, some (.int x)] (.int x :: st) M Q) ∧
  (∀ (d : Nat) (lv : List (Option Value)) (st : List Value) (M : jx_M) (Q : jx_Po) (x z : Int32), jx_Ev d 43 84 lv (.int z :: .int x :: st) M Q ↔ jx_Ev d 43 85 lv (.int (x - z) :: st) M Q) ∧
  (∀ (d : Nat) (lv : List (Option Value)) (M : jx_M) (Q : jx_Po) (x : Int32), jx_Ev d 43 85 lv [.int x] M Q ↔ Q [.int x] M) ∧
  (∀ (d : Nat) (st : List Value) (M : jx_M) (Q : jx_Po) (l1 l2 l3 l4 l5 l6 : Option Value) (x : Nat), jx_Ev d 43 86 [some (.ref x), l1, l2, l3, l4, l5, l6] st M Q ↔ jx_Ev d 43 87 [some (.ref x), l1, l2, l3, l4, l5, l6] (.ref x :: st) M Q) ∧
  (∀ (d : Nat) (lv : List (Option Value)) (M : jx_M) (Q : jx_Po), jx_Ev (d + 1) 43 87 lv [.ref 0] M Q ↔ jx_V d 44 [.ref 0] M (fun M => jx_Ev (d + 1) 43 90 lv [] M Q)) ∧
  (∀ (d : Nat) (st : List Value) (M : jx_M) (Q : jx_Po) (l1 l2 l3 l4 l5 l6 : Option Value) (x : Nat), jx_Ev d 43 90 [some (.ref x), l1, l2, l3, l4, l5, l6] st M Q ↔ jx_Ev d 43 91 [some (.ref x), l1, l2, l3, l4, l5, l6] (.ref x :: st) M Q) ∧
  (∀ (d : Nat) (lv : List (Option Value)) (st : List Value) (M : jx_M) (Q : jx_Po), jx_Ev d 43 91 lv (.ref 0 :: st) M Q ↔ jx_Ev d 43 94 lv (jx_rv (M 0 6) :: st) M Q) ∧
  (∀ (d : Nat) (lv : List (Option Value)) (st : List Value) (M : jx_M) (Q : jx_Po) (k : Nat) (hk : jx_cl k = 1), jx_Ev d 43 94 lv (.ref k :: st) M Q ↔ jx_Ev d 43 97 lv (.int (M k 6) :: st) M Q) ∧
  (∀ (d : Nat) (lv : List (Option Value)) (M : jx_M) (Q : jx_Po) (x : Int32), jx_Ev d 43 97 lv [.int x] M Q ↔ Q [.int x] M) := by
  refine ⟨?_, ?_, ?_, ?_, ?_, ?_, ?_, ?_, ?_, ?_, ?_, ?_, ?_, ?_, ?_, ?_, ?_, ?_, ?_, ?_, ?_, ?_, ?_, ?_, ?_, ?_, ?_, ?_, ?_, ?_, ?_, ?_, ?_, ?_, ?_, ?_, ?_, ?_, ?_, ?_, ?_, ?_, ?_, ?_, ?_, ?_, ?_, ?_, ?_, ?_, ?_, ?_, ?_⟩
  · exact fun d st M Q l1 l2 l3 l4 l5 l6 x => jx_ev_st (jx_fok (by decide +kernel : decode (jx_mb 43) 0 = .ok (.aload_n 0, 1))) rfl rfl rfl
  · exact fun d lv st M Q => jx_ev_st (jx_fok (by decide +kernel : decode (jx_mb 43) 1 = .ok (.iconst 0, 1))) rfl rfl rfl
  · exact fun d lv st M Q x => jx_k_pf0 (jx_fok (by decide +kernel : decode (jx_mb 43) 2 = .ok (.putfield 66, 3))) rfl rfl rfl
  · exact fun d st M Q l0 l2 l3 l4 l5 l6 x => jx_ev_st (jx_fok (by decide +kernel : decode (jx_mb 43) 5 = .ok (.iload_n 1, 1))) rfl rfl rfl
  · exact fun d lv M Q a0 => jx_ev_ci (jx_fok (by decide +kernel : decode (jx_mb 43) 6 = .ok (.invokestatic 70, 3))) rfl (jx_ccS (As := [.int a0]) (rest := []) rfl rfl rfl rfl rfl) (by decide)
  · exact fun d lv st M Q x => jx_k_b1n (jx_fok (by decide +kernel : decode (jx_mb 43) 9 = .ok (.ifCond .ne 5, 3))) rfl jx_hNe
  · exact fun d lv st M Q => jx_ev_st (jx_fok (by decide +kernel : decode (jx_mb 43) 12 = .ok (.iconst (-1), 1))) rfl rfl rfl
  · exact fun d lv M Q x => jx_k_ri (jx_fok (by decide +kernel : decode (jx_mb 43) 13 = .ok (.ireturn, 1))) rfl
  · exact fun d st M Q l0 l1 l3 l4 l5 l6 x => jx_ev_st (jx_fok (by decide +kernel : decode (jx_mb 43) 14 = .ok (.iload_n 2, 1))) rfl rfl rfl
  · exact fun d lv M Q a0 => jx_ev_ci (jx_fok (by decide +kernel : decode (jx_mb 43) 15 = .ok (.invokestatic 74, 3))) rfl (jx_ccS (As := [.int a0]) (rest := []) rfl rfl rfl rfl rfl) (by decide)
  · exact fun d lv st M Q x => jx_k_b1n (jx_fok (by decide +kernel : decode (jx_mb 43) 18 = .ok (.ifCond .ne 6, 3))) rfl jx_hNe
  · exact fun d lv st M Q => jx_ev_st (jx_fok (by decide +kernel : decode (jx_mb 43) 21 = .ok (.bipush (-2), 2))) rfl rfl rfl
  · exact fun d lv M Q x => jx_k_ri (jx_fok (by decide +kernel : decode (jx_mb 43) 23 = .ok (.ireturn, 1))) rfl
  · exact fun d st M Q l1 l2 l3 l4 l5 l6 x => jx_ev_st (jx_fok (by decide +kernel : decode (jx_mb 43) 24 = .ok (.aload_n 0, 1))) rfl rfl rfl
  · exact fun d lv st M Q => jx_k_gf (jx_fok (by decide +kernel : decode (jx_mb 43) 25 = .ok (.getfield 13, 3))) rfl rfl rfl
  · exact fun d st M Q l0 l2 l3 l4 l5 l6 x => jx_ev_st (jx_fok (by decide +kernel : decode (jx_mb 43) 28 = .ok (.iload_n 1, 1))) rfl rfl rfl
  · exact fun d lv st M Q x => jx_k_aa (jx_fok (by decide +kernel : decode (jx_mb 43) 29 = .ok (.aaload, 1)))
  · exact fun d st M Q l0 l1 l3 l4 l5 l6 x => jx_ev_st (jx_fok (by decide +kernel : decode (jx_mb 43) 30 = .ok (.iload_n 2, 1))) rfl rfl rfl
  · exact fun d st M Q l0 l1 l2 l4 l5 l6 x => jx_ev_st (jx_fok (by decide +kernel : decode (jx_mb 43) 31 = .ok (.iload_n 3, 1))) rfl rfl rfl
  · exact fun d st M Q l0 l1 l2 l3 l5 l6 x => jx_ev_st (jx_fok (by decide +kernel : decode (jx_mb 43) 32 = .ok (.iload 4, 2))) rfl rfl rfl
  · exact fun d lv M Q a0 a1 a2 a3 hk => jx_ev_ci (jx_fok (by decide +kernel : decode (jx_mb 43) 34 = .ok (.invokevirtual 77, 3))) rfl (jx_ccV (As := [.int a2, .int a1, .int a0]) (rest := []) rfl rfl rfl hk rfl rfl) (by decide)
  · exact fun d st M Q l0 l1 l2 l3 l4 l5 l6 x => jx_ev_st (jx_fok (by decide +kernel : decode (jx_mb 43) 37 = .ok (.istore 5, 2))) rfl rfl rfl
  · exact fun d st M Q l0 l1 l2 l3 l4 l6 x => jx_ev_st (jx_fok (by decide +kernel : decode (jx_mb 43) 39 = .ok (.iload 5, 2))) rfl rfl rfl
  · exact fun d lv st M Q x => jx_k_b1 (jx_fok (by decide +kernel : decode (jx_mb 43) 41 = .ok (.ifCond .eq 10, 3))) rfl jx_hEq
  · exact fun d st M Q l1 l2 l3 l4 l5 l6 x => jx_ev_st (jx_fok (by decide +kernel : decode (jx_mb 43) 44 = .ok (.aload_n 0, 1))) rfl rfl rfl
  · exact fun d st M Q l0 l1 l2 l3 l4 l6 x => jx_ev_st (jx_fok (by decide +kernel : decode (jx_mb 43) 45 = .ok (.iload 5, 2))) rfl rfl rfl
  · exact fun d lv M Q a0 => jx_ev_ci (jx_fok (by decide +kernel : decode (jx_mb 43) 47 = .ok (.invokevirtual 81, 3))) rfl (jx_ccV (As := [.int a0]) (rest := []) rfl rfl rfl rfl rfl rfl) (by decide)
  · exact fun d lv M Q x => jx_k_ri (jx_fok (by decide +kernel : decode (jx_mb 43) 50 = .ok (.ireturn, 1))) rfl
  · exact fun d st M Q l1 l2 l3 l4 l5 l6 x => jx_ev_st (jx_fok (by decide +kernel : decode (jx_mb 43) 51 = .ok (.aload_n 0, 1))) rfl rfl rfl
  · exact fun d lv st M Q => jx_k_gf (jx_fok (by decide +kernel : decode (jx_mb 43) 52 = .ok (.getfield 20, 3))) rfl rfl rfl
  · exact fun d st M Q l1 l2 l3 l4 l5 l6 x => jx_ev_st (jx_fok (by decide +kernel : decode (jx_mb 43) 55 = .ok (.aload_n 0, 1))) rfl rfl rfl
  · exact fun d lv st M Q => jx_k_gf (jx_fok (by decide +kernel : decode (jx_mb 43) 56 = .ok (.getfield 13, 3))) rfl rfl rfl
  · exact fun d st M Q l0 l2 l3 l4 l5 l6 x => jx_ev_st (jx_fok (by decide +kernel : decode (jx_mb 43) 59 = .ok (.iload_n 1, 1))) rfl rfl rfl
  · exact fun d lv st M Q x => jx_k_aa (jx_fok (by decide +kernel : decode (jx_mb 43) 60 = .ok (.aaload, 1)))
  · exact fun d st M Q l0 l1 l2 l4 l5 l6 x => jx_ev_st (jx_fok (by decide +kernel : decode (jx_mb 43) 61 = .ok (.iload_n 3, 1))) rfl rfl rfl
  · exact fun d st M Q l0 l1 l2 l3 l5 l6 x => jx_ev_st (jx_fok (by decide +kernel : decode (jx_mb 43) 62 = .ok (.iload 4, 2))) rfl rfl rfl
  · exact fun d st M Q l1 l2 l3 l4 l5 l6 x => jx_ev_st (jx_fok (by decide +kernel : decode (jx_mb 43) 64 = .ok (.aload_n 0, 1))) rfl rfl rfl
  · exact fun d lv st M Q => jx_k_gf (jx_fok (by decide +kernel : decode (jx_mb 43) 65 = .ok (.getfield 59, 3))) rfl rfl rfl
  · exact fun d lv M Q a0 a1 a2 a3 => jx_ev_ci (jx_fok (by decide +kernel : decode (jx_mb 43) 68 = .ok (.invokevirtual 85, 3))) rfl (jx_ccV (As := [.ref a3, .int a2, .int a1, .ref a0]) (rest := []) rfl rfl rfl rfl rfl rfl) (by decide)
  · exact fun d st M Q l0 l1 l2 l3 l4 l5 l6 x => jx_ev_st (jx_fok (by decide +kernel : decode (jx_mb 43) 71 = .ok (.istore 6, 2))) rfl rfl rfl
  · exact fun d st M Q l0 l1 l2 l3 l4 l5 x => jx_ev_st (jx_fok (by decide +kernel : decode (jx_mb 43) 73 = .ok (.iload 6, 2))) rfl rfl rfl
  · exact fun d lv st M Q => jx_ev_st (jx_fok (by decide +kernel : decode (jx_mb 43) 75 = .ok (.bipush (-9), 2))) rfl rfl rfl
  · exact fun d lv st M Q x z => jx_k_b2 (jx_fok (by decide +kernel : decode (jx_mb 43) 77 = .ok (.if_icmp .eq 9, 3))) rfl jx_hEq
  · exact fun d lv st M Q => jx_ev_st (jx_fok (by decide +kernel : decode (jx_mb 43) 80 = .ok (.bipush (-100), 2))) rfl rfl rfl
  · exact fun d st M Q l0 l1 l2 l3 l4 l5 x => jx_ev_st (jx_fok (by decide +kernel : decode (jx_mb 43) 82 = .ok (.iload 6, 2))) rfl rfl rfl
  · exact fun d lv st M Q x z => jx_ev_st (jx_fok (by decide +kernel : decode (jx_mb 43) 84 = .ok (.isub, 1))) rfl rfl rfl
  · exact fun d lv M Q x => jx_k_ri (jx_fok (by decide +kernel : decode (jx_mb 43) 85 = .ok (.ireturn, 1))) rfl
  · exact fun d st M Q l1 l2 l3 l4 l5 l6 x => jx_ev_st (jx_fok (by decide +kernel : decode (jx_mb 43) 86 = .ok (.aload_n 0, 1))) rfl rfl rfl
  · exact fun d lv M Q => jx_ev_cv (jx_fok (by decide +kernel : decode (jx_mb 43) 87 = .ok (.invokevirtual 89, 3))) rfl (jx_ccV (As := []) (rest := []) rfl rfl rfl rfl rfl rfl) rfl
  · exact fun d st M Q l1 l2 l3 l4 l5 l6 x => jx_ev_st (jx_fok (by decide +kernel : decode (jx_mb 43) 90 = .ok (.aload_n 0, 1))) rfl rfl rfl
  · exact fun d lv st M Q => jx_k_gf (jx_fok (by decide +kernel : decode (jx_mb 43) 91 = .ok (.getfield 55, 3))) rfl rfl rfl
  · exact fun d lv st M Q k hk => jx_k_gf (jx_fok (by decide +kernel : decode (jx_mb 43) 94 = .ok (.getfield 92, 3))) rfl hk rfl
  · exact fun d lv M Q x => jx_k_ri (jx_fok (by decide +kernel : decode (jx_mb 43) 97 = .ok (.ireturn, 1))) rfl
theorem kX7_office (d : Nat) (M : jx_M) (q : Int32 → jx_M → Prop) (a0 a1 a2 a3 a4 : Value) : jx_I d 43 [a0, a1, a2, a3, a4] M q ↔ jx_Ev d 43 0 [some a0, some a1, some a2, some a3, some a4, none, none] [] M (jx_qI q) := Iff.rfl
set_option maxRecDepth 100000 in
theorem eX7_takeDraft :
  (∀ (d : Nat) (st : List Value) (M : jx_M) (Q : jx_Po) (l1 : Option Value) (x : Nat), jx_Ev d 44 0 [some (.ref x), l1] st M Q ↔ jx_Ev d 44 1 [some (.ref x), l1] (.ref x :: st) M Q) ∧
  (∀ (d : Nat) (lv : List (Option Value)) (st : List Value) (M : jx_M) (Q : jx_Po), jx_Ev d 44 1 lv (.ref 0 :: st) M Q ↔ jx_Ev d 44 4 lv (jx_rv (M 0 6) :: st) M Q) ∧
  (∀ (d : Nat) (st : List Value) (M : jx_M) (Q : jx_Po) (l0 l1 : Option Value) (x : Nat), jx_Ev d 44 4 [l0, l1] (.ref x :: st) M Q ↔ jx_Ev d 44 5 [l0, some (.ref x)] st M Q) ∧
  (∀ (d : Nat) (st : List Value) (M : jx_M) (Q : jx_Po) (l1 : Option Value) (x : Nat), jx_Ev d 44 5 [some (.ref x), l1] st M Q ↔ jx_Ev d 44 6 [some (.ref x), l1] (.ref x :: st) M Q) ∧
  (∀ (d : Nat) (st : List Value) (M : jx_M) (Q : jx_Po) (l1 : Option Value) (x : Nat), jx_Ev d 44 6 [some (.ref x), l1] st M Q ↔ jx_Ev d 44 7 [some (.ref x), l1] (.ref x :: st) M Q) ∧
  (∀ (d : Nat) (lv : List (Option Value)) (st : List Value) (M : jx_M) (Q : jx_Po), jx_Ev d 44 7 lv (.ref 0 :: st) M Q ↔ jx_Ev d 44 10 lv (jx_rv (M 0 7) :: st) M Q) ∧
  (∀ (d : Nat) (lv : List (Option Value)) (st : List Value) (M : jx_M) (Q : jx_Po) (o : Nat) (ho : o < 56), jx_Ev d 44 10 lv (.ref o :: .ref 0 :: st) M Q ↔ jx_Ev d 44 13 lv st (jx_up M 0 6 (nI o)) Q) ∧
  (∀ (d : Nat) (st : List Value) (M : jx_M) (Q : jx_Po) (l1 : Option Value) (x : Nat), jx_Ev d 44 13 [some (.ref x), l1] st M Q ↔ jx_Ev d 44 14 [some (.ref x), l1] (.ref x :: st) M Q) ∧
  (∀ (d : Nat) (st : List Value) (M : jx_M) (Q : jx_Po) (l0 : Option Value) (x : Nat), jx_Ev d 44 14 [l0, some (.ref x)] st M Q ↔ jx_Ev d 44 15 [l0, some (.ref x)] (.ref x :: st) M Q) ∧
  (∀ (d : Nat) (lv : List (Option Value)) (st : List Value) (M : jx_M) (Q : jx_Po) (o : Nat) (ho : o < 56), jx_Ev d 44 15 lv (.ref o :: .ref 0 :: st) M Q ↔ jx_Ev d 44 18 lv st (jx_up M 0 7 (nI o)) Q) ∧
  (∀ (d : Nat) (st : List Value) (M : jx_M) (Q : jx_Po) (l1 : Option Value) (x : Nat), jx_Ev d 44 18 [some (.ref x), l1] st M Q ↔ jx_Ev d 44 19 [some (.ref x), l1] (.ref x :: st) M Q) ∧
  (∀ (d : Nat) (lv : List (Option Value)) (st : List Value) (M : jx_M) (Q : jx_Po), jx_Ev d 44 19 lv (.ref 0 :: st) M Q ↔ jx_Ev d 44 22 lv (.ref 3 :: st) M Q) ∧
  (∀ (d : Nat) (lv : List (Option Value)) (st : List Value) (M : jx_M) (Q : jx_Po), jx_Ev d 44 22 lv st M Q ↔ jx_Ev d 44 23 lv (.int 0 :: st) M Q) ∧
  (∀ (d : Nat) (lv : List (Option Value)) (st : List Value) (M : jx_M) (Q : jx_Po) (x : Int32), jx_Ev d 44 23 lv (.int x :: .ref 3 :: st) M Q ↔ jx_Ev d 44 26 lv st (jx_up M 3 3 x) Q) ∧
  (∀ (d : Nat) (lv : List (Option Value)) (M : jx_M) (Q : jx_Po), jx_Ev d 44 26 lv [] M Q ↔ Q [] M) := by
  refine ⟨?_, ?_, ?_, ?_, ?_, ?_, ?_, ?_, ?_, ?_, ?_, ?_, ?_, ?_, ?_⟩
  · exact fun d st M Q l1 x => jx_ev_st (jx_fok (by decide +kernel : decode (jx_mb 44) 0 = .ok (.aload_n 0, 1))) rfl rfl rfl
  · exact fun d lv st M Q => jx_k_gf (jx_fok (by decide +kernel : decode (jx_mb 44) 1 = .ok (.getfield 55, 3))) rfl rfl rfl
  · exact fun d st M Q l0 l1 x => jx_ev_st (jx_fok (by decide +kernel : decode (jx_mb 44) 4 = .ok (.astore_n 1, 1))) rfl rfl rfl
  · exact fun d st M Q l1 x => jx_ev_st (jx_fok (by decide +kernel : decode (jx_mb 44) 5 = .ok (.aload_n 0, 1))) rfl rfl rfl
  · exact fun d st M Q l1 x => jx_ev_st (jx_fok (by decide +kernel : decode (jx_mb 44) 6 = .ok (.aload_n 0, 1))) rfl rfl rfl
  · exact fun d lv st M Q => jx_k_gf (jx_fok (by decide +kernel : decode (jx_mb 44) 7 = .ok (.getfield 59, 3))) rfl rfl rfl
  · exact fun d lv st M Q o ho => jx_k_pf2 (jx_fok (by decide +kernel : decode (jx_mb 44) 10 = .ok (.putfield 55, 3))) rfl rfl rfl ho
  · exact fun d st M Q l1 x => jx_ev_st (jx_fok (by decide +kernel : decode (jx_mb 44) 13 = .ok (.aload_n 0, 1))) rfl rfl rfl
  · exact fun d st M Q l0 x => jx_ev_st (jx_fok (by decide +kernel : decode (jx_mb 44) 14 = .ok (.aload_n 1, 1))) rfl rfl rfl
  · exact fun d lv st M Q o ho => jx_k_pf2 (jx_fok (by decide +kernel : decode (jx_mb 44) 15 = .ok (.putfield 59, 3))) rfl rfl rfl ho
  · exact fun d st M Q l1 x => jx_ev_st (jx_fok (by decide +kernel : decode (jx_mb 44) 18 = .ok (.aload_n 0, 1))) rfl rfl rfl
  · exact fun d lv st M Q => jx_k_gf (jx_fok (by decide +kernel : decode (jx_mb 44) 19 = .ok (.getfield 27, 3))) rfl rfl rfl
  · exact fun d lv st M Q => jx_ev_st (jx_fok (by decide +kernel : decode (jx_mb 44) 22 = .ok (.iconst 0, 1))) rfl rfl rfl
  · exact fun d lv st M Q x => jx_k_pf0 (jx_fok (by decide +kernel : decode (jx_mb 44) 23 = .ok (.putfield 95, 3))) rfl rfl rfl
  · exact fun d lv M Q => jx_k_rv (jx_fok (by decide +kernel : decode (jx_mb 44) 26 = .ok (.return_, 1))) rfl
theorem kX7_takeDraft (d : Nat) (M : jx_M) (q : jx_M → Prop) (a0 : Value) : jx_V d 44 [a0] M q ↔ jx_Ev d 44 0 [some a0, none] [] M (jx_qV q) := Iff.rfl
set_option maxRecDepth 100000 in
theorem eX7_ofPerson :
  (∀ (d : Nat) (st : List Value) (M : jx_M) (Q : jx_Po) (l1 l2 : Option Value) (x : Nat), jx_Ev d 45 0 [some (.ref x), l1, l2] st M Q ↔ jx_Ev d 45 1 [some (.ref x), l1, l2] (.ref x :: st) M Q) ∧
  (∀ (d : Nat) (lv : List (Option Value)) (st : List Value) (M : jx_M) (Q : jx_Po), jx_Ev d 45 1 lv (.ref 0 :: st) M Q ↔ jx_Ev d 45 4 lv (jx_rv (M 0 6) :: st) M Q) ∧
  (∀ (d : Nat) (st : List Value) (M : jx_M) (Q : jx_Po) (l0 l2 : Option Value) (x : Int32), jx_Ev d 45 4 [l0, some (.int x), l2] st M Q ↔ jx_Ev d 45 5 [l0, some (.int x), l2] (.int x :: st) M Q) ∧
  (∀ (d : Nat) (lv : List (Option Value)) (M : jx_M) (Q : jx_Po) (a0 : Int32) (a1 : Nat) (hk : jx_cl a1 = 1), jx_Ev (d + 1) 45 5 lv [.int a0, .ref a1] M Q ↔ jx_I d 5 [.ref a1, .int a0] M (fun x M => jx_Ev (d + 1) 45 8 lv (.int x :: []) M Q)) ∧
  (∀ (d : Nat) (lv : List (Option Value)) (st : List Value) (M : jx_M) (Q : jx_Po) (x : Int32), jx_Ev d 45 8 lv (.int x :: st) M Q ↔ (if x = 0 then jx_Ev d 45 11 lv st M Q else jx_Ev d 45 13 lv st M Q)) ∧
  (∀ (d : Nat) (lv : List (Option Value)) (st : List Value) (M : jx_M) (Q : jx_Po), jx_Ev d 45 11 lv st M Q ↔ jx_Ev d 45 12 lv (.int (-1) :: st) M Q) ∧
  (∀ (d : Nat) (lv : List (Option Value)) (M : jx_M) (Q : jx_Po) (x : Int32), jx_Ev d 45 12 lv [.int x] M Q ↔ Q [.int x] M) ∧
  (∀ (d : Nat) (st : List Value) (M : jx_M) (Q : jx_Po) (l0 l1 : Option Value) (x : Int32), jx_Ev d 45 13 [l0, l1, some (.int x)] st M Q ↔ jx_Ev d 45 14 [l0, l1, some (.int x)] (.int x :: st) M Q) ∧
  (∀ (d : Nat) (lv : List (Option Value)) (st : List Value) (M : jx_M) (Q : jx_Po) (x : Int32), jx_Ev d 45 14 lv (.int x :: st) M Q ↔ (if x = 0 then jx_Ev d 45 40 lv st M Q else if x = 1 then jx_Ev d 45 50 lv st M Q else if x = 2 then jx_Ev d 45 60 lv st M Q else jx_Ev d 45 69 lv st M Q)) ∧
  (∀ (d : Nat) (st : List Value) (M : jx_M) (Q : jx_Po) (l1 l2 : Option Value) (x : Nat), jx_Ev d 45 40 [some (.ref x), l1, l2] st M Q ↔ jx_Ev d 45 41 [some (.ref x), l1, l2] (.ref x :: st) M Q) ∧
  (∀ (d : Nat) (lv : List (Option Value)) (st : List Value) (M : jx_M) (Q : jx_Po), jx_Ev d 45 41 lv (.ref 0 :: st) M Q ↔ jx_Ev d 45 44 lv (jx_rv (M 0 6) :: st) M Q) ∧
  (∀ (d : Nat) (lv : List (Option Value)) (st : List Value) (M : jx_M) (Q : jx_Po) (k : Nat) (hk : jx_cl k = 1), jx_Ev d 45 44 lv (.ref k :: st) M Q ↔ jx_Ev d 45 47 lv (.ref (k + 1) :: st) M Q) ∧
  (∀ (d : Nat) (st : List Value) (M : jx_M) (Q : jx_Po) (l0 l2 : Option Value) (x : Int32), jx_Ev d 45 47 [l0, some (.int x), l2] st M Q ↔ jx_Ev d 45 48 [l0, some (.int x), l2] (.int x :: st) M Q) ∧
  (∀ (d : Nat) (lv : List (Option Value)) (st : List Value) (M : jx_M) (Q : jx_Po) (x : Int32) (a : Nat) (ha : jx_cl a = 9), jx_Ev d 45 48 lv (.int x :: .ref a :: st) M Q ↔ (vp_in x (jx_sz a) ∧ jx_Ev d 45 49 lv (.int (M a x.toNatClampNeg) :: st) M Q)) ∧
  (∀ (d : Nat) (lv : List (Option Value)) (M : jx_M) (Q : jx_Po) (x : Int32), jx_Ev d 45 49 lv [.int x] M Q ↔ Q [.int x] M) ∧
  (∀ (d : Nat) (st : List Value) (M : jx_M) (Q : jx_Po) (l1 l2 : Option Value) (x : Nat), jx_Ev d 45 50 [some (.ref x), l1, l2] st M Q ↔ jx_Ev d 45 51 [some (.ref x), l1, l2] (.ref x :: st) M Q) ∧
  (∀ (d : Nat) (lv : List (Option Value)) (st : List Value) (M : jx_M) (Q : jx_Po), jx_Ev d 45 51 lv (.ref 0 :: st) M Q ↔ jx_Ev d 45 54 lv (jx_rv (M 0 6) :: st) M Q) ∧
  (∀ (d : Nat) (lv : List (Option Value)) (st : List Value) (M : jx_M) (Q : jx_Po) (k : Nat) (hk : jx_cl k = 1), jx_Ev d 45 54 lv (.ref k :: st) M Q ↔ jx_Ev d 45 57 lv (.ref (k + 2) :: st) M Q) ∧
  (∀ (d : Nat) (st : List Value) (M : jx_M) (Q : jx_Po) (l0 l2 : Option Value) (x : Int32), jx_Ev d 45 57 [l0, some (.int x), l2] st M Q ↔ jx_Ev d 45 58 [l0, some (.int x), l2] (.int x :: st) M Q) ∧
  (∀ (d : Nat) (lv : List (Option Value)) (st : List Value) (M : jx_M) (Q : jx_Po) (x : Int32) (a : Nat) (ha : jx_cl a = 9), jx_Ev d 45 58 lv (.int x :: .ref a :: st) M Q ↔ (vp_in x (jx_sz a) ∧ jx_Ev d 45 59 lv (.int (M a x.toNatClampNeg) :: st) M Q)) ∧
  (∀ (d : Nat) (lv : List (Option Value)) (M : jx_M) (Q : jx_Po) (x : Int32), jx_Ev d 45 59 lv [.int x] M Q ↔ Q [.int x] M) ∧
  (∀ (d : Nat) (st : List Value) (M : jx_M) (Q : jx_Po) (l1 l2 : Option Value) (x : Nat), jx_Ev d 45 60 [some (.ref x), l1, l2] st M Q ↔ jx_Ev d 45 61 [some (.ref x), l1, l2] (.ref x :: st) M Q) ∧
  (∀ (d : Nat) (lv : List (Option Value)) (st : List Value) (M : jx_M) (Q : jx_Po), jx_Ev d 45 61 lv (.ref 0 :: st) M Q ↔ jx_Ev d 45 64 lv (jx_rv (M 0 6) :: st) M Q) ∧
  (∀ (d : Nat) (st : List Value) (M : jx_M) (Q : jx_Po) (l0 l2 : Option Value) (x : Int32), jx_Ev d 45 64 [l0, some (.int x), l2] st M Q ↔ jx_Ev d 45 65 [l0, some (.int x), l2] (.int x :: st) M Q) ∧
  (∀ (d : Nat) (lv : List (Option Value)) (M : jx_M) (Q : jx_Po) (a0 : Int32) (a1 : Nat) (hk : jx_cl a1 = 1), jx_Ev (d + 1) 45 65 lv [.int a0, .ref a1] M Q ↔ jx_I d 8 [.ref a1, .int a0] M (fun x M => jx_Ev (d + 1) 45 68 lv (.int x :: []) M Q)) ∧
  (∀ (d : Nat) (lv : List (Option Value)) (M : jx_M) (Q : jx_Po) (x : Int32), jx_Ev d 45 68 lv [.int x] M Q ↔ Q [.int x] M) ∧
  (∀ (d : Nat) (lv : List (Option Value)) (st : List Value) (M : jx_M) (Q : jx_Po), jx_Ev d 45 69 lv st M Q ↔ jx_Ev d 45 71 lv (.int (-2) :: st) M Q) ∧
  (∀ (d : Nat) (lv : List (Option Value)) (M : jx_M) (Q : jx_Po) (x : Int32), jx_Ev d 45 71 lv [.int x] M Q ↔ Q [.int x] M) := by
  refine ⟨?_, ?_, ?_, ?_, ?_, ?_, ?_, ?_, ?_, ?_, ?_, ?_, ?_, ?_, ?_, ?_, ?_, ?_, ?_, ?_, ?_, ?_, ?_, ?_, ?_, ?_, ?_, ?_⟩
  · exact fun d st M Q l1 l2 x => jx_ev_st (jx_fok (by decide +kernel : decode (jx_mb 45) 0 = .ok (.aload_n 0, 1))) rfl rfl rfl
  · exact fun d lv st M Q => jx_k_gf (jx_fok (by decide +kernel : decode (jx_mb 45) 1 = .ok (.getfield 55, 3))) rfl rfl rfl
  · exact fun d st M Q l0 l2 x => jx_ev_st (jx_fok (by decide +kernel : decode (jx_mb 45) 4 = .ok (.iload_n 1, 1))) rfl rfl rfl
  · exact fun d lv M Q a0 a1 hk => jx_ev_ci (jx_fok (by decide +kernel : decode (jx_mb 45) 5 = .ok (.invokevirtual 98, 3))) rfl (jx_ccV (As := [.int a0]) (rest := []) rfl rfl rfl hk rfl rfl) (by decide)
  · exact fun d lv st M Q x => jx_k_b1n (jx_fok (by decide +kernel : decode (jx_mb 45) 8 = .ok (.ifCond .ne 5, 3))) rfl jx_hNe
  · exact fun d lv st M Q => jx_ev_st (jx_fok (by decide +kernel : decode (jx_mb 45) 11 = .ok (.iconst (-1), 1))) rfl rfl rfl
  · exact fun d lv M Q x => jx_k_ri (jx_fok (by decide +kernel : decode (jx_mb 45) 12 = .ok (.ireturn, 1))) rfl
  · exact fun d st M Q l0 l1 x => jx_ev_st (jx_fok (by decide +kernel : decode (jx_mb 45) 13 = .ok (.iload_n 2, 1))) rfl rfl rfl
  · intro d lv st M Q x
    by_cases h0 : x = 0
    · subst h0; rw [if_pos rfl]; exact jx_k_tsi (jx_fok (by decide +kernel : decode (jx_mb 45) 14 = .ok (.tableswitch 55 0 2 #[26, 36, 46], 26))) (by decide) rfl rfl
    rw [if_neg h0]
    by_cases h1 : x = 1
    · subst h1; rw [if_pos rfl]; exact jx_k_tsi (jx_fok (by decide +kernel : decode (jx_mb 45) 14 = .ok (.tableswitch 55 0 2 #[26, 36, 46], 26))) (by decide) rfl rfl
    rw [if_neg h1]
    by_cases h2 : x = 2
    · subst h2; rw [if_pos rfl]; exact jx_k_tsi (jx_fok (by decide +kernel : decode (jx_mb 45) 14 = .ok (.tableswitch 55 0 2 #[26, 36, 46], 26))) (by decide) rfl rfl
    rw [if_neg h2]
    exact jx_k_tso (jx_fok (by decide +kernel : decode (jx_mb 45) 14 = .ok (.tableswitch 55 0 2 #[26, 36, 46], 26))) (by have e := jx_tsx3 (x := x) h0 h1 h2; omega) rfl
  · exact fun d st M Q l1 l2 x => jx_ev_st (jx_fok (by decide +kernel : decode (jx_mb 45) 40 = .ok (.aload_n 0, 1))) rfl rfl rfl
  · exact fun d lv st M Q => jx_k_gf (jx_fok (by decide +kernel : decode (jx_mb 45) 41 = .ok (.getfield 55, 3))) rfl rfl rfl
  · exact fun d lv st M Q k hk => jx_k_gf (jx_fok (by decide +kernel : decode (jx_mb 45) 44 = .ok (.getfield 101, 3))) rfl hk rfl
  · exact fun d st M Q l0 l2 x => jx_ev_st (jx_fok (by decide +kernel : decode (jx_mb 45) 47 = .ok (.iload_n 1, 1))) rfl rfl rfl
  · exact fun d lv st M Q x a ha => jx_k_al (jx_fok (by decide +kernel : decode (jx_mb 45) 48 = .ok (.iaload, 1))) ha
  · exact fun d lv M Q x => jx_k_ri (jx_fok (by decide +kernel : decode (jx_mb 45) 49 = .ok (.ireturn, 1))) rfl
  · exact fun d st M Q l1 l2 x => jx_ev_st (jx_fok (by decide +kernel : decode (jx_mb 45) 50 = .ok (.aload_n 0, 1))) rfl rfl rfl
  · exact fun d lv st M Q => jx_k_gf (jx_fok (by decide +kernel : decode (jx_mb 45) 51 = .ok (.getfield 55, 3))) rfl rfl rfl
  · exact fun d lv st M Q k hk => jx_k_gf (jx_fok (by decide +kernel : decode (jx_mb 45) 54 = .ok (.getfield 105, 3))) rfl hk rfl
  · exact fun d st M Q l0 l2 x => jx_ev_st (jx_fok (by decide +kernel : decode (jx_mb 45) 57 = .ok (.iload_n 1, 1))) rfl rfl rfl
  · exact fun d lv st M Q x a ha => jx_k_al (jx_fok (by decide +kernel : decode (jx_mb 45) 58 = .ok (.iaload, 1))) ha
  · exact fun d lv M Q x => jx_k_ri (jx_fok (by decide +kernel : decode (jx_mb 45) 59 = .ok (.ireturn, 1))) rfl
  · exact fun d st M Q l1 l2 x => jx_ev_st (jx_fok (by decide +kernel : decode (jx_mb 45) 60 = .ok (.aload_n 0, 1))) rfl rfl rfl
  · exact fun d lv st M Q => jx_k_gf (jx_fok (by decide +kernel : decode (jx_mb 45) 61 = .ok (.getfield 55, 3))) rfl rfl rfl
  · exact fun d st M Q l0 l2 x => jx_ev_st (jx_fok (by decide +kernel : decode (jx_mb 45) 64 = .ok (.iload_n 1, 1))) rfl rfl rfl
  · exact fun d lv M Q a0 a1 hk => jx_ev_ci (jx_fok (by decide +kernel : decode (jx_mb 45) 65 = .ok (.invokevirtual 108, 3))) rfl (jx_ccV (As := [.int a0]) (rest := []) rfl rfl rfl hk rfl rfl) (by decide)
  · exact fun d lv M Q x => jx_k_ri (jx_fok (by decide +kernel : decode (jx_mb 45) 68 = .ok (.ireturn, 1))) rfl
  · exact fun d lv st M Q => jx_ev_st (jx_fok (by decide +kernel : decode (jx_mb 45) 69 = .ok (.bipush (-2), 2))) rfl rfl rfl
  · exact fun d lv M Q x => jx_k_ri (jx_fok (by decide +kernel : decode (jx_mb 45) 71 = .ok (.ireturn, 1))) rfl
theorem kX7_ofPerson (d : Nat) (M : jx_M) (q : Int32 → jx_M → Prop) (a0 a1 a2 : Value) : jx_I d 45 [a0, a1, a2] M q ↔ jx_Ev d 45 0 [some a0, some a1, some a2] [] M (jx_qI q) := Iff.rfl
set_option maxRecDepth 100000 in
theorem eX7_ofClap :
  (∀ (d : Nat) (st : List Value) (M : jx_M) (Q : jx_Po) (l1 l2 : Option Value) (x : Nat), jx_Ev d 46 0 [some (.ref x), l1, l2] st M Q ↔ jx_Ev d 46 1 [some (.ref x), l1, l2] (.ref x :: st) M Q) ∧
  (∀ (d : Nat) (lv : List (Option Value)) (st : List Value) (M : jx_M) (Q : jx_Po), jx_Ev d 46 1 lv (.ref 0 :: st) M Q ↔ jx_Ev d 46 4 lv (jx_rv (M 0 6) :: st) M Q) ∧
  (∀ (d : Nat) (st : List Value) (M : jx_M) (Q : jx_Po) (l0 l2 : Option Value) (x : Int32), jx_Ev d 46 4 [l0, some (.int x), l2] st M Q ↔ jx_Ev d 46 5 [l0, some (.int x), l2] (.int x :: st) M Q) ∧
  (∀ (d : Nat) (lv : List (Option Value)) (M : jx_M) (Q : jx_Po) (a0 : Int32) (a1 : Nat) (hk : jx_cl a1 = 1), jx_Ev (d + 1) 46 5 lv [.int a0, .ref a1] M Q ↔ jx_I d 6 [.ref a1, .int a0] M (fun x M => jx_Ev (d + 1) 46 8 lv (.int x :: []) M Q)) ∧
  (∀ (d : Nat) (lv : List (Option Value)) (st : List Value) (M : jx_M) (Q : jx_Po) (x : Int32), jx_Ev d 46 8 lv (.int x :: st) M Q ↔ (if x = 0 then jx_Ev d 46 11 lv st M Q else jx_Ev d 46 13 lv st M Q)) ∧
  (∀ (d : Nat) (lv : List (Option Value)) (st : List Value) (M : jx_M) (Q : jx_Po), jx_Ev d 46 11 lv st M Q ↔ jx_Ev d 46 12 lv (.int (-1) :: st) M Q) ∧
  (∀ (d : Nat) (lv : List (Option Value)) (M : jx_M) (Q : jx_Po) (x : Int32), jx_Ev d 46 12 lv [.int x] M Q ↔ Q [.int x] M) ∧
  (∀ (d : Nat) (st : List Value) (M : jx_M) (Q : jx_Po) (l0 l1 : Option Value) (x : Int32), jx_Ev d 46 13 [l0, l1, some (.int x)] st M Q ↔ jx_Ev d 46 14 [l0, l1, some (.int x)] (.int x :: st) M Q) ∧
  (∀ (d : Nat) (lv : List (Option Value)) (st : List Value) (M : jx_M) (Q : jx_Po) (x : Int32), jx_Ev d 46 14 lv (.int x :: st) M Q ↔ (if x = 0 then jx_Ev d 46 40 lv st M Q else if x = 1 then jx_Ev d 46 50 lv st M Q else if x = 2 then jx_Ev d 46 60 lv st M Q else jx_Ev d 46 70 lv st M Q)) ∧
  (∀ (d : Nat) (st : List Value) (M : jx_M) (Q : jx_Po) (l1 l2 : Option Value) (x : Nat), jx_Ev d 46 40 [some (.ref x), l1, l2] st M Q ↔ jx_Ev d 46 41 [some (.ref x), l1, l2] (.ref x :: st) M Q) ∧
  (∀ (d : Nat) (lv : List (Option Value)) (st : List Value) (M : jx_M) (Q : jx_Po), jx_Ev d 46 41 lv (.ref 0 :: st) M Q ↔ jx_Ev d 46 44 lv (jx_rv (M 0 6) :: st) M Q) ∧
  (∀ (d : Nat) (lv : List (Option Value)) (st : List Value) (M : jx_M) (Q : jx_Po) (k : Nat) (hk : jx_cl k = 1), jx_Ev d 46 44 lv (.ref k :: st) M Q ↔ jx_Ev d 46 47 lv (.ref (k + 3) :: st) M Q) ∧
  (∀ (d : Nat) (st : List Value) (M : jx_M) (Q : jx_Po) (l0 l2 : Option Value) (x : Int32), jx_Ev d 46 47 [l0, some (.int x), l2] st M Q ↔ jx_Ev d 46 48 [l0, some (.int x), l2] (.int x :: st) M Q) ∧
  (∀ (d : Nat) (lv : List (Option Value)) (st : List Value) (M : jx_M) (Q : jx_Po) (x : Int32) (a : Nat) (ha : jx_cl a = 9), jx_Ev d 46 48 lv (.int x :: .ref a :: st) M Q ↔ (vp_in x (jx_sz a) ∧ jx_Ev d 46 49 lv (.int (M a x.toNatClampNeg) :: st) M Q)) ∧
  (∀ (d : Nat) (lv : List (Option Value)) (M : jx_M) (Q : jx_Po) (x : Int32), jx_Ev d 46 49 lv [.int x] M Q ↔ Q [.int x] M) ∧
  (∀ (d : Nat) (st : List Value) (M : jx_M) (Q : jx_Po) (l1 l2 : Option Value) (x : Nat), jx_Ev d 46 50 [some (.ref x), l1, l2] st M Q ↔ jx_Ev d 46 51 [some (.ref x), l1, l2] (.ref x :: st) M Q) ∧
  (∀ (d : Nat) (lv : List (Option Value)) (st : List Value) (M : jx_M) (Q : jx_Po), jx_Ev d 46 51 lv (.ref 0 :: st) M Q ↔ jx_Ev d 46 54 lv (jx_rv (M 0 6) :: st) M Q) ∧
  (∀ (d : Nat) (lv : List (Option Value)) (st : List Value) (M : jx_M) (Q : jx_Po) (k : Nat) (hk : jx_cl k = 1), jx_Ev d 46 54 lv (.ref k :: st) M Q ↔ jx_Ev d 46 57 lv (.ref (k + 4) :: st) M Q) ∧
  (∀ (d : Nat) (st : List Value) (M : jx_M) (Q : jx_Po) (l0 l2 : Option Value) (x : Int32), jx_Ev d 46 57 [l0, some (.int x), l2] st M Q ↔ jx_Ev d 46 58 [l0, some (.int x), l2] (.int x :: st) M Q) ∧
  (∀ (d : Nat) (lv : List (Option Value)) (st : List Value) (M : jx_M) (Q : jx_Po) (x : Int32) (a : Nat) (ha : jx_cl a = 9), jx_Ev d 46 58 lv (.int x :: .ref a :: st) M Q ↔ (vp_in x (jx_sz a) ∧ jx_Ev d 46 59 lv (.int (M a x.toNatClampNeg) :: st) M Q)) ∧
  (∀ (d : Nat) (lv : List (Option Value)) (M : jx_M) (Q : jx_Po) (x : Int32), jx_Ev d 46 59 lv [.int x] M Q ↔ Q [.int x] M) ∧
  (∀ (d : Nat) (st : List Value) (M : jx_M) (Q : jx_Po) (l1 l2 : Option Value) (x : Nat), jx_Ev d 46 60 [some (.ref x), l1, l2] st M Q ↔ jx_Ev d 46 61 [some (.ref x), l1, l2] (.ref x :: st) M Q) ∧
  (∀ (d : Nat) (lv : List (Option Value)) (st : List Value) (M : jx_M) (Q : jx_Po), jx_Ev d 46 61 lv (.ref 0 :: st) M Q ↔ jx_Ev d 46 64 lv (jx_rv (M 0 6) :: st) M Q) ∧
  (∀ (d : Nat) (lv : List (Option Value)) (st : List Value) (M : jx_M) (Q : jx_Po) (k : Nat) (hk : jx_cl k = 1), jx_Ev d 46 64 lv (.ref k :: st) M Q ↔ jx_Ev d 46 67 lv (.ref (k + 5) :: st) M Q) ∧
  (∀ (d : Nat) (st : List Value) (M : jx_M) (Q : jx_Po) (l0 l2 : Option Value) (x : Int32), jx_Ev d 46 67 [l0, some (.int x), l2] st M Q ↔ jx_Ev d 46 68 [l0, some (.int x), l2] (.int x :: st) M Q) ∧
  (∀ (d : Nat) (lv : List (Option Value)) (st : List Value) (M : jx_M) (Q : jx_Po) (x : Int32) (a : Nat) (ha : jx_cl a = 9), jx_Ev d 46 68 lv (.int x :: .ref a :: st) M Q ↔ (vp_in x (jx_sz a) ∧ jx_Ev d 46 69 lv (.int (M a x.toNatClampNeg) :: st) M Q)) ∧
  (∀ (d : Nat) (lv : List (Option Value)) (M : jx_M) (Q : jx_Po) (x : Int32), jx_Ev d 46 69 lv [.int x] M Q ↔ Q [.int x] M) ∧
  (∀ (d : Nat) (lv : List (Option Value)) (st : List Value) (M : jx_M) (Q : jx_Po), jx_Ev d 46 70 lv st M Q ↔ jx_Ev d 46 72 lv (.int (-2) :: st) M Q) ∧
  (∀ (d : Nat) (lv : List (Option Value)) (M : jx_M) (Q : jx_Po) (x : Int32), jx_Ev d 46 72 lv [.int x] M Q ↔ Q [.int x] M) := by
  refine ⟨?_, ?_, ?_, ?_, ?_, ?_, ?_, ?_, ?_, ?_, ?_, ?_, ?_, ?_, ?_, ?_, ?_, ?_, ?_, ?_, ?_, ?_, ?_, ?_, ?_, ?_, ?_, ?_, ?_⟩
  · exact fun d st M Q l1 l2 x => jx_ev_st (jx_fok (by decide +kernel : decode (jx_mb 46) 0 = .ok (.aload_n 0, 1))) rfl rfl rfl
  · exact fun d lv st M Q => jx_k_gf (jx_fok (by decide +kernel : decode (jx_mb 46) 1 = .ok (.getfield 55, 3))) rfl rfl rfl
  · exact fun d st M Q l0 l2 x => jx_ev_st (jx_fok (by decide +kernel : decode (jx_mb 46) 4 = .ok (.iload_n 1, 1))) rfl rfl rfl
  · exact fun d lv M Q a0 a1 hk => jx_ev_ci (jx_fok (by decide +kernel : decode (jx_mb 46) 5 = .ok (.invokevirtual 111, 3))) rfl (jx_ccV (As := [.int a0]) (rest := []) rfl rfl rfl hk rfl rfl) (by decide)
  · exact fun d lv st M Q x => jx_k_b1n (jx_fok (by decide +kernel : decode (jx_mb 46) 8 = .ok (.ifCond .ne 5, 3))) rfl jx_hNe
  · exact fun d lv st M Q => jx_ev_st (jx_fok (by decide +kernel : decode (jx_mb 46) 11 = .ok (.iconst (-1), 1))) rfl rfl rfl
  · exact fun d lv M Q x => jx_k_ri (jx_fok (by decide +kernel : decode (jx_mb 46) 12 = .ok (.ireturn, 1))) rfl
  · exact fun d st M Q l0 l1 x => jx_ev_st (jx_fok (by decide +kernel : decode (jx_mb 46) 13 = .ok (.iload_n 2, 1))) rfl rfl rfl
  · intro d lv st M Q x
    by_cases h0 : x = 0
    · subst h0; rw [if_pos rfl]; exact jx_k_tsi (jx_fok (by decide +kernel : decode (jx_mb 46) 14 = .ok (.tableswitch 56 0 2 #[26, 36, 46], 26))) (by decide) rfl rfl
    rw [if_neg h0]
    by_cases h1 : x = 1
    · subst h1; rw [if_pos rfl]; exact jx_k_tsi (jx_fok (by decide +kernel : decode (jx_mb 46) 14 = .ok (.tableswitch 56 0 2 #[26, 36, 46], 26))) (by decide) rfl rfl
    rw [if_neg h1]
    by_cases h2 : x = 2
    · subst h2; rw [if_pos rfl]; exact jx_k_tsi (jx_fok (by decide +kernel : decode (jx_mb 46) 14 = .ok (.tableswitch 56 0 2 #[26, 36, 46], 26))) (by decide) rfl rfl
    rw [if_neg h2]
    exact jx_k_tso (jx_fok (by decide +kernel : decode (jx_mb 46) 14 = .ok (.tableswitch 56 0 2 #[26, 36, 46], 26))) (by have e := jx_tsx3 (x := x) h0 h1 h2; omega) rfl
  · exact fun d st M Q l1 l2 x => jx_ev_st (jx_fok (by decide +kernel : decode (jx_mb 46) 40 = .ok (.aload_n 0, 1))) rfl rfl rfl
  · exact fun d lv st M Q => jx_k_gf (jx_fok (by decide +kernel : decode (jx_mb 46) 41 = .ok (.getfield 55, 3))) rfl rfl rfl
  · exact fun d lv st M Q k hk => jx_k_gf (jx_fok (by decide +kernel : decode (jx_mb 46) 44 = .ok (.getfield 114, 3))) rfl hk rfl
  · exact fun d st M Q l0 l2 x => jx_ev_st (jx_fok (by decide +kernel : decode (jx_mb 46) 47 = .ok (.iload_n 1, 1))) rfl rfl rfl
  · exact fun d lv st M Q x a ha => jx_k_al (jx_fok (by decide +kernel : decode (jx_mb 46) 48 = .ok (.iaload, 1))) ha
  · exact fun d lv M Q x => jx_k_ri (jx_fok (by decide +kernel : decode (jx_mb 46) 49 = .ok (.ireturn, 1))) rfl
  · exact fun d st M Q l1 l2 x => jx_ev_st (jx_fok (by decide +kernel : decode (jx_mb 46) 50 = .ok (.aload_n 0, 1))) rfl rfl rfl
  · exact fun d lv st M Q => jx_k_gf (jx_fok (by decide +kernel : decode (jx_mb 46) 51 = .ok (.getfield 55, 3))) rfl rfl rfl
  · exact fun d lv st M Q k hk => jx_k_gf (jx_fok (by decide +kernel : decode (jx_mb 46) 54 = .ok (.getfield 117, 3))) rfl hk rfl
  · exact fun d st M Q l0 l2 x => jx_ev_st (jx_fok (by decide +kernel : decode (jx_mb 46) 57 = .ok (.iload_n 1, 1))) rfl rfl rfl
  · exact fun d lv st M Q x a ha => jx_k_al (jx_fok (by decide +kernel : decode (jx_mb 46) 58 = .ok (.iaload, 1))) ha
  · exact fun d lv M Q x => jx_k_ri (jx_fok (by decide +kernel : decode (jx_mb 46) 59 = .ok (.ireturn, 1))) rfl
  · exact fun d st M Q l1 l2 x => jx_ev_st (jx_fok (by decide +kernel : decode (jx_mb 46) 60 = .ok (.aload_n 0, 1))) rfl rfl rfl
  · exact fun d lv st M Q => jx_k_gf (jx_fok (by decide +kernel : decode (jx_mb 46) 61 = .ok (.getfield 55, 3))) rfl rfl rfl
  · exact fun d lv st M Q k hk => jx_k_gf (jx_fok (by decide +kernel : decode (jx_mb 46) 64 = .ok (.getfield 120, 3))) rfl hk rfl
  · exact fun d st M Q l0 l2 x => jx_ev_st (jx_fok (by decide +kernel : decode (jx_mb 46) 67 = .ok (.iload_n 1, 1))) rfl rfl rfl
  · exact fun d lv st M Q x a ha => jx_k_al (jx_fok (by decide +kernel : decode (jx_mb 46) 68 = .ok (.iaload, 1))) ha
  · exact fun d lv M Q x => jx_k_ri (jx_fok (by decide +kernel : decode (jx_mb 46) 69 = .ok (.ireturn, 1))) rfl
  · exact fun d lv st M Q => jx_ev_st (jx_fok (by decide +kernel : decode (jx_mb 46) 70 = .ok (.bipush (-2), 2))) rfl rfl rfl
  · exact fun d lv M Q x => jx_k_ri (jx_fok (by decide +kernel : decode (jx_mb 46) 72 = .ok (.ireturn, 1))) rfl
theorem kX7_ofClap (d : Nat) (M : jx_M) (q : Int32 → jx_M → Prop) (a0 a1 a2 : Value) : jx_I d 46 [a0, a1, a2] M q ↔ jx_Ev d 46 0 [some a0, some a1, some a2] [] M (jx_qI q) := Iff.rfl
set_option maxRecDepth 100000 in
theorem eX7_nerve :
  (∀ (d : Nat) (st : List Value) (M : jx_M) (Q : jx_Po) (l1 l2 l3 : Option Value) (x : Nat), jx_Ev d 47 0 [some (.ref x), l1, l2, l3] st M Q ↔ jx_Ev d 47 1 [some (.ref x), l1, l2, l3] (.ref x :: st) M Q) ∧
  (∀ (d : Nat) (lv : List (Option Value)) (st : List Value) (M : jx_M) (Q : jx_Po), jx_Ev d 47 1 lv (.ref 0 :: st) M Q ↔ jx_Ev d 47 4 lv (jx_rv (M 0 6) :: st) M Q) ∧
  (∀ (d : Nat) (st : List Value) (M : jx_M) (Q : jx_Po) (l0 l2 l3 : Option Value) (x : Int32), jx_Ev d 47 4 [l0, some (.int x), l2, l3] st M Q ↔ jx_Ev d 47 5 [l0, some (.int x), l2, l3] (.int x :: st) M Q) ∧
  (∀ (d : Nat) (lv : List (Option Value)) (M : jx_M) (Q : jx_Po) (a0 : Int32) (a1 : Nat) (hk : jx_cl a1 = 1), jx_Ev (d + 1) 47 5 lv [.int a0, .ref a1] M Q ↔ jx_I d 5 [.ref a1, .int a0] M (fun x M => jx_Ev (d + 1) 47 8 lv (.int x :: []) M Q)) ∧
  (∀ (d : Nat) (lv : List (Option Value)) (st : List Value) (M : jx_M) (Q : jx_Po) (x : Int32), jx_Ev d 47 8 lv (.int x :: st) M Q ↔ (if x = 0 then jx_Ev d 47 11 lv st M Q else jx_Ev d 47 13 lv st M Q)) ∧
  (∀ (d : Nat) (lv : List (Option Value)) (st : List Value) (M : jx_M) (Q : jx_Po), jx_Ev d 47 11 lv st M Q ↔ jx_Ev d 47 12 lv (.int (-1) :: st) M Q) ∧
  (∀ (d : Nat) (lv : List (Option Value)) (M : jx_M) (Q : jx_Po) (x : Int32), jx_Ev d 47 12 lv [.int x] M Q ↔ Q [.int x] M) ∧
  (∀ (d : Nat) (st : List Value) (M : jx_M) (Q : jx_Po) (l0 l1 l3 : Option Value) (x : Int32), jx_Ev d 47 13 [l0, l1, some (.int x), l3] st M Q ↔ jx_Ev d 47 14 [l0, l1, some (.int x), l3] (.int x :: st) M Q) ∧
  (∀ (d : Nat) (lv : List (Option Value)) (st : List Value) (M : jx_M) (Q : jx_Po) (x : Int32), jx_Ev d 47 14 lv (.int x :: st) M Q ↔ (if x < 0 then jx_Ev d 47 23 lv st M Q else jx_Ev d 47 17 lv st M Q)) ∧
  (∀ (d : Nat) (st : List Value) (M : jx_M) (Q : jx_Po) (l0 l1 l3 : Option Value) (x : Int32), jx_Ev d 47 17 [l0, l1, some (.int x), l3] st M Q ↔ jx_Ev d 47 18 [l0, l1, some (.int x), l3] (.int x :: st) M Q) ∧
  (∀ (d : Nat) (lv : List (Option Value)) (st : List Value) (M : jx_M) (Q : jx_Po), jx_Ev d 47 18 lv st M Q ↔ jx_Ev d 47 20 lv (.int 9 :: st) M Q) ∧
  (∀ (d : Nat) (lv : List (Option Value)) (st : List Value) (M : jx_M) (Q : jx_Po) (x z : Int32), jx_Ev d 47 20 lv (.int z :: .int x :: st) M Q ↔ (if x ≤ z then jx_Ev d 47 26 lv st M Q else jx_Ev d 47 23 lv st M Q)) ∧
  (∀ (d : Nat) (lv : List (Option Value)) (st : List Value) (M : jx_M) (Q : jx_Po), jx_Ev d 47 23 lv st M Q ↔ jx_Ev d 47 25 lv (.int (-2) :: st) M Q) ∧
  (∀ (d : Nat) (lv : List (Option Value)) (M : jx_M) (Q : jx_Po) (x : Int32), jx_Ev d 47 25 lv [.int x] M Q ↔ Q [.int x] M) ∧
  (∀ (d : Nat) (st : List Value) (M : jx_M) (Q : jx_Po) (l1 l2 l3 : Option Value) (x : Nat), jx_Ev d 47 26 [some (.ref x), l1, l2, l3] st M Q ↔ jx_Ev d 47 27 [some (.ref x), l1, l2, l3] (.ref x :: st) M Q) ∧
  (∀ (d : Nat) (lv : List (Option Value)) (st : List Value) (M : jx_M) (Q : jx_Po), jx_Ev d 47 27 lv (.ref 0 :: st) M Q ↔ jx_Ev d 47 30 lv (jx_rv (M 0 6) :: st) M Q) ∧
  (∀ (d : Nat) (lv : List (Option Value)) (st : List Value) (M : jx_M) (Q : jx_Po) (k : Nat) (hk : jx_cl k = 1), jx_Ev d 47 30 lv (.ref k :: st) M Q ↔ jx_Ev d 47 33 lv (.ref (k + 1) :: st) M Q) ∧
  (∀ (d : Nat) (st : List Value) (M : jx_M) (Q : jx_Po) (l0 l2 l3 : Option Value) (x : Int32), jx_Ev d 47 33 [l0, some (.int x), l2, l3] st M Q ↔ jx_Ev d 47 34 [l0, some (.int x), l2, l3] (.int x :: st) M Q) ∧
  (∀ (d : Nat) (lv : List (Option Value)) (st : List Value) (M : jx_M) (Q : jx_Po) (x : Int32) (a : Nat) (ha : jx_cl a = 9), jx_Ev d 47 34 lv (.int x :: .ref a :: st) M Q ↔ (vp_in x (jx_sz a) ∧ jx_Ev d 47 35 lv (.int (M a x.toNatClampNeg) :: st) M Q)) ∧
  (∀ (d : Nat) (st : List Value) (M : jx_M) (Q : jx_Po) (l0 l1 l2 l3 : Option Value) (x : Int32), jx_Ev d 47 35 [l0, l1, l2, l3] (.int x :: st) M Q ↔ jx_Ev d 47 36 [l0, l1, l2, some (.int x)] st M Q) ∧
  (∀ (d : Nat) (st : List Value) (M : jx_M) (Q : jx_Po) (l1 l2 l3 : Option Value) (x : Nat), jx_Ev d 47 36 [some (.ref x), l1, l2, l3] st M Q ↔ jx_Ev d 47 37 [some (.ref x), l1, l2, l3] (.ref x :: st) M Q) ∧
  (∀ (d : Nat) (lv : List (Option Value)) (st : List Value) (M : jx_M) (Q : jx_Po), jx_Ev d 47 37 lv (.ref 0 :: st) M Q ↔ jx_Ev d 47 40 lv (jx_rv (M 0 6) :: st) M Q) ∧
  (∀ (d : Nat) (lv : List (Option Value)) (st : List Value) (M : jx_M) (Q : jx_Po) (k : Nat) (hk : jx_cl k = 1), jx_Ev d 47 40 lv (.ref k :: st) M Q ↔ jx_Ev d 47 43 lv (.ref (k + 1) :: st) M Q) ∧
  (∀ (d : Nat) (st : List Value) (M : jx_M) (Q : jx_Po) (l0 l2 l3 : Option Value) (x : Int32), jx_Ev d 47 43 [l0, some (.int x), l2, l3] st M Q ↔ jx_Ev d 47 44 [l0, some (.int x), l2, l3] (.int x :: st) M Q) ∧
  (∀ (d : Nat) (st : List Value) (M : jx_M) (Q : jx_Po) (l0 l1 l3 : Option Value) (x : Int32), jx_Ev d 47 44 [l0, l1, some (.int x), l3] st M Q ↔ jx_Ev d 47 45 [l0, l1, some (.int x), l3] (.int x :: st) M Q) ∧
  (∀ (d : Nat) (lv : List (Option Value)) (st : List Value) (M : jx_M) (Q : jx_Po) (x z : Int32) (a : Nat) (ha : jx_cl a = 9), jx_Ev d 47 45 lv (.int z :: .int x :: .ref a :: st) M Q ↔ (vp_in x (jx_sz a) ∧ jx_Ev d 47 46 lv st (jx_up M a x.toNatClampNeg z) Q)) ∧
  (∀ (d : Nat) (st : List Value) (M : jx_M) (Q : jx_Po) (l0 l1 l2 : Option Value) (x : Int32), jx_Ev d 47 46 [l0, l1, l2, some (.int x)] st M Q ↔ jx_Ev d 47 47 [l0, l1, l2, some (.int x)] (.int x :: st) M Q) ∧
  (∀ (d : Nat) (lv : List (Option Value)) (M : jx_M) (Q : jx_Po) (x : Int32), jx_Ev d 47 47 lv [.int x] M Q ↔ Q [.int x] M) := by
  refine ⟨?_, ?_, ?_, ?_, ?_, ?_, ?_, ?_, ?_, ?_, ?_, ?_, ?_, ?_, ?_, ?_, ?_, ?_, ?_, ?_, ?_, ?_, ?_, ?_, ?_, ?_, ?_, ?_⟩
  · exact fun d st M Q l1 l2 l3 x => jx_ev_st (jx_fok (by decide +kernel : decode (jx_mb 47) 0 = .ok (.aload_n 0, 1))) rfl rfl rfl
  · exact fun d lv st M Q => jx_k_gf (jx_fok (by decide +kernel : decode (jx_mb 47) 1 = .ok (.getfield 55, 3))) rfl rfl rfl
  · exact fun d st M Q l0 l2 l3 x => jx_ev_st (jx_fok (by decide +kernel : decode (jx_mb 47) 4 = .ok (.iload_n 1, 1))) rfl rfl rfl
  · exact fun d lv M Q a0 a1 hk => jx_ev_ci (jx_fok (by decide +kernel : decode (jx_mb 47) 5 = .ok (.invokevirtual 98, 3))) rfl (jx_ccV (As := [.int a0]) (rest := []) rfl rfl rfl hk rfl rfl) (by decide)
  · exact fun d lv st M Q x => jx_k_b1n (jx_fok (by decide +kernel : decode (jx_mb 47) 8 = .ok (.ifCond .ne 5, 3))) rfl jx_hNe
  · exact fun d lv st M Q => jx_ev_st (jx_fok (by decide +kernel : decode (jx_mb 47) 11 = .ok (.iconst (-1), 1))) rfl rfl rfl
  · exact fun d lv M Q x => jx_k_ri (jx_fok (by decide +kernel : decode (jx_mb 47) 12 = .ok (.ireturn, 1))) rfl
  · exact fun d st M Q l0 l1 l3 x => jx_ev_st (jx_fok (by decide +kernel : decode (jx_mb 47) 13 = .ok (.iload_n 2, 1))) rfl rfl rfl
  · exact fun d lv st M Q x => jx_k_b1 (jx_fok (by decide +kernel : decode (jx_mb 47) 14 = .ok (.ifCond .lt 9, 3))) rfl jx_hLt
  · exact fun d st M Q l0 l1 l3 x => jx_ev_st (jx_fok (by decide +kernel : decode (jx_mb 47) 17 = .ok (.iload_n 2, 1))) rfl rfl rfl
  · exact fun d lv st M Q => jx_ev_st (jx_fok (by decide +kernel : decode (jx_mb 47) 18 = .ok (.bipush 9, 2))) rfl rfl rfl
  · exact fun d lv st M Q x z => jx_k_b2 (jx_fok (by decide +kernel : decode (jx_mb 47) 20 = .ok (.if_icmp .le 6, 3))) rfl jx_hLe
  · exact fun d lv st M Q => jx_ev_st (jx_fok (by decide +kernel : decode (jx_mb 47) 23 = .ok (.bipush (-2), 2))) rfl rfl rfl
  · exact fun d lv M Q x => jx_k_ri (jx_fok (by decide +kernel : decode (jx_mb 47) 25 = .ok (.ireturn, 1))) rfl
  · exact fun d st M Q l1 l2 l3 x => jx_ev_st (jx_fok (by decide +kernel : decode (jx_mb 47) 26 = .ok (.aload_n 0, 1))) rfl rfl rfl
  · exact fun d lv st M Q => jx_k_gf (jx_fok (by decide +kernel : decode (jx_mb 47) 27 = .ok (.getfield 55, 3))) rfl rfl rfl
  · exact fun d lv st M Q k hk => jx_k_gf (jx_fok (by decide +kernel : decode (jx_mb 47) 30 = .ok (.getfield 101, 3))) rfl hk rfl
  · exact fun d st M Q l0 l2 l3 x => jx_ev_st (jx_fok (by decide +kernel : decode (jx_mb 47) 33 = .ok (.iload_n 1, 1))) rfl rfl rfl
  · exact fun d lv st M Q x a ha => jx_k_al (jx_fok (by decide +kernel : decode (jx_mb 47) 34 = .ok (.iaload, 1))) ha
  · exact fun d st M Q l0 l1 l2 l3 x => jx_ev_st (jx_fok (by decide +kernel : decode (jx_mb 47) 35 = .ok (.istore_n 3, 1))) rfl rfl rfl
  · exact fun d st M Q l1 l2 l3 x => jx_ev_st (jx_fok (by decide +kernel : decode (jx_mb 47) 36 = .ok (.aload_n 0, 1))) rfl rfl rfl
  · exact fun d lv st M Q => jx_k_gf (jx_fok (by decide +kernel : decode (jx_mb 47) 37 = .ok (.getfield 55, 3))) rfl rfl rfl
  · exact fun d lv st M Q k hk => jx_k_gf (jx_fok (by decide +kernel : decode (jx_mb 47) 40 = .ok (.getfield 101, 3))) rfl hk rfl
  · exact fun d st M Q l0 l2 l3 x => jx_ev_st (jx_fok (by decide +kernel : decode (jx_mb 47) 43 = .ok (.iload_n 1, 1))) rfl rfl rfl
  · exact fun d st M Q l0 l1 l3 x => jx_ev_st (jx_fok (by decide +kernel : decode (jx_mb 47) 44 = .ok (.iload_n 2, 1))) rfl rfl rfl
  · exact fun d lv st M Q x z a ha => jx_k_as (jx_fok (by decide +kernel : decode (jx_mb 47) 45 = .ok (.iastore, 1))) ha
  · exact fun d st M Q l0 l1 l2 x => jx_ev_st (jx_fok (by decide +kernel : decode (jx_mb 47) 46 = .ok (.iload_n 3, 1))) rfl rfl rfl
  · exact fun d lv M Q x => jx_k_ri (jx_fok (by decide +kernel : decode (jx_mb 47) 47 = .ok (.ireturn, 1))) rfl
theorem kX7_nerve (d : Nat) (M : jx_M) (q : Int32 → jx_M → Prop) (a0 a1 a2 : Value) : jx_I d 47 [a0, a1, a2] M q ↔ jx_Ev d 47 0 [some a0, some a1, some a2, none] [] M (jx_qI q) := Iff.rfl
set_option maxRecDepth 100000 in
theorem eX7_damp :
  (∀ (d : Nat) (st : List Value) (M : jx_M) (Q : jx_Po) (l0 l2 : Option Value) (x : Int32), jx_Ev d 48 0 [l0, some (.int x), l2] st M Q ↔ jx_Ev d 48 1 [l0, some (.int x), l2] (.int x :: st) M Q) ∧
  (∀ (d : Nat) (lv : List (Option Value)) (st : List Value) (M : jx_M) (Q : jx_Po) (x : Int32), jx_Ev d 48 1 lv (.int x :: st) M Q ↔ (if x < 0 then jx_Ev d 48 9 lv st M Q else jx_Ev d 48 4 lv st M Q)) ∧
  (∀ (d : Nat) (st : List Value) (M : jx_M) (Q : jx_Po) (l0 l2 : Option Value) (x : Int32), jx_Ev d 48 4 [l0, some (.int x), l2] st M Q ↔ jx_Ev d 48 5 [l0, some (.int x), l2] (.int x :: st) M Q) ∧
  (∀ (d : Nat) (lv : List (Option Value)) (st : List Value) (M : jx_M) (Q : jx_Po), jx_Ev d 48 5 lv st M Q ↔ jx_Ev d 48 6 lv (.int 3 :: st) M Q) ∧
  (∀ (d : Nat) (lv : List (Option Value)) (st : List Value) (M : jx_M) (Q : jx_Po) (x z : Int32), jx_Ev d 48 6 lv (.int z :: .int x :: st) M Q ↔ (if x ≤ z then jx_Ev d 48 12 lv st M Q else jx_Ev d 48 9 lv st M Q)) ∧
  (∀ (d : Nat) (lv : List (Option Value)) (st : List Value) (M : jx_M) (Q : jx_Po), jx_Ev d 48 9 lv st M Q ↔ jx_Ev d 48 11 lv (.int (-2) :: st) M Q) ∧
  (∀ (d : Nat) (lv : List (Option Value)) (M : jx_M) (Q : jx_Po) (x : Int32), jx_Ev d 48 11 lv [.int x] M Q ↔ Q [.int x] M) ∧
  (∀ (d : Nat) (st : List Value) (M : jx_M) (Q : jx_Po) (l1 l2 : Option Value) (x : Nat), jx_Ev d 48 12 [some (.ref x), l1, l2] st M Q ↔ jx_Ev d 48 13 [some (.ref x), l1, l2] (.ref x :: st) M Q) ∧
  (∀ (d : Nat) (lv : List (Option Value)) (st : List Value) (M : jx_M) (Q : jx_Po), jx_Ev d 48 13 lv (.ref 0 :: st) M Q ↔ jx_Ev d 48 16 lv (jx_rv (M 0 6) :: st) M Q) ∧
  (∀ (d : Nat) (lv : List (Option Value)) (M : jx_M) (Q : jx_Po) (a0 : Nat) (hk : jx_cl a0 = 1), jx_Ev (d + 1) 48 16 lv [.ref a0] M Q ↔ jx_I d 4 [.ref a0] M (fun x M => jx_Ev (d + 1) 48 19 lv (.int x :: []) M Q)) ∧
  (∀ (d : Nat) (lv : List (Option Value)) (st : List Value) (M : jx_M) (Q : jx_Po) (x : Int32), jx_Ev d 48 19 lv (.int x :: st) M Q ↔ (if x = 0 then jx_Ev d 48 22 lv st M Q else jx_Ev d 48 25 lv st M Q)) ∧
  (∀ (d : Nat) (lv : List (Option Value)) (st : List Value) (M : jx_M) (Q : jx_Po), jx_Ev d 48 22 lv st M Q ↔ jx_Ev d 48 24 lv (.int (-3) :: st) M Q) ∧
  (∀ (d : Nat) (lv : List (Option Value)) (M : jx_M) (Q : jx_Po) (x : Int32), jx_Ev d 48 24 lv [.int x] M Q ↔ Q [.int x] M) ∧
  (∀ (d : Nat) (st : List Value) (M : jx_M) (Q : jx_Po) (l1 l2 : Option Value) (x : Nat), jx_Ev d 48 25 [some (.ref x), l1, l2] st M Q ↔ jx_Ev d 48 26 [some (.ref x), l1, l2] (.ref x :: st) M Q) ∧
  (∀ (d : Nat) (lv : List (Option Value)) (st : List Value) (M : jx_M) (Q : jx_Po), jx_Ev d 48 26 lv (.ref 0 :: st) M Q ↔ jx_Ev d 48 29 lv (jx_rv (M 0 6) :: st) M Q) ∧
  (∀ (d : Nat) (lv : List (Option Value)) (st : List Value) (M : jx_M) (Q : jx_Po) (k : Nat) (hk : jx_cl k = 1), jx_Ev d 48 29 lv (.ref k :: st) M Q ↔ jx_Ev d 48 32 lv (.int (M k 7) :: st) M Q) ∧
  (∀ (d : Nat) (st : List Value) (M : jx_M) (Q : jx_Po) (l0 l1 l2 : Option Value) (x : Int32), jx_Ev d 48 32 [l0, l1, l2] (.int x :: st) M Q ↔ jx_Ev d 48 33 [l0, l1, some (.int x)] st M Q) ∧
  (∀ (d : Nat) (st : List Value) (M : jx_M) (Q : jx_Po) (l1 l2 : Option Value) (x : Nat), jx_Ev d 48 33 [some (.ref x), l1, l2] st M Q ↔ jx_Ev d 48 34 [some (.ref x), l1, l2] (.ref x :: st) M Q) ∧
  (∀ (d : Nat) (lv : List (Option Value)) (st : List Value) (M : jx_M) (Q : jx_Po), jx_Ev d 48 34 lv (.ref 0 :: st) M Q ↔ jx_Ev d 48 37 lv (jx_rv (M 0 6) :: st) M Q) ∧
  (∀ (d : Nat) (st : List Value) (M : jx_M) (Q : jx_Po) (l0 l2 : Option Value) (x : Int32), jx_Ev d 48 37 [l0, some (.int x), l2] st M Q ↔ jx_Ev d 48 38 [l0, some (.int x), l2] (.int x :: st) M Q) ∧
  (∀ (d : Nat) (lv : List (Option Value)) (st : List Value) (M : jx_M) (Q : jx_Po) (x : Int32) (k : Nat) (hk : jx_cl k = 1), jx_Ev d 48 38 lv (.int x :: .ref k :: st) M Q ↔ jx_Ev d 48 41 lv st (jx_up M k 7 x) Q) ∧
  (∀ (d : Nat) (st : List Value) (M : jx_M) (Q : jx_Po) (l0 l1 : Option Value) (x : Int32), jx_Ev d 48 41 [l0, l1, some (.int x)] st M Q ↔ jx_Ev d 48 42 [l0, l1, some (.int x)] (.int x :: st) M Q) ∧
  (∀ (d : Nat) (lv : List (Option Value)) (M : jx_M) (Q : jx_Po) (x : Int32), jx_Ev d 48 42 lv [.int x] M Q ↔ Q [.int x] M) := by
  refine ⟨?_, ?_, ?_, ?_, ?_, ?_, ?_, ?_, ?_, ?_, ?_, ?_, ?_, ?_, ?_, ?_, ?_, ?_, ?_, ?_, ?_, ?_, ?_⟩
  · exact fun d st M Q l0 l2 x => jx_ev_st (jx_fok (by decide +kernel : decode (jx_mb 48) 0 = .ok (.iload_n 1, 1))) rfl rfl rfl
  · exact fun d lv st M Q x => jx_k_b1 (jx_fok (by decide +kernel : decode (jx_mb 48) 1 = .ok (.ifCond .lt 8, 3))) rfl jx_hLt
  · exact fun d st M Q l0 l2 x => jx_ev_st (jx_fok (by decide +kernel : decode (jx_mb 48) 4 = .ok (.iload_n 1, 1))) rfl rfl rfl
  · exact fun d lv st M Q => jx_ev_st (jx_fok (by decide +kernel : decode (jx_mb 48) 5 = .ok (.iconst 3, 1))) rfl rfl rfl
  · exact fun d lv st M Q x z => jx_k_b2 (jx_fok (by decide +kernel : decode (jx_mb 48) 6 = .ok (.if_icmp .le 6, 3))) rfl jx_hLe
  · exact fun d lv st M Q => jx_ev_st (jx_fok (by decide +kernel : decode (jx_mb 48) 9 = .ok (.bipush (-2), 2))) rfl rfl rfl
  · exact fun d lv M Q x => jx_k_ri (jx_fok (by decide +kernel : decode (jx_mb 48) 11 = .ok (.ireturn, 1))) rfl
  · exact fun d st M Q l1 l2 x => jx_ev_st (jx_fok (by decide +kernel : decode (jx_mb 48) 12 = .ok (.aload_n 0, 1))) rfl rfl rfl
  · exact fun d lv st M Q => jx_k_gf (jx_fok (by decide +kernel : decode (jx_mb 48) 13 = .ok (.getfield 55, 3))) rfl rfl rfl
  · exact fun d lv M Q a0 hk => jx_ev_ci (jx_fok (by decide +kernel : decode (jx_mb 48) 16 = .ok (.invokevirtual 123, 3))) rfl (jx_ccV (As := []) (rest := []) rfl rfl rfl hk rfl rfl) (by decide)
  · exact fun d lv st M Q x => jx_k_b1n (jx_fok (by decide +kernel : decode (jx_mb 48) 19 = .ok (.ifCond .ne 6, 3))) rfl jx_hNe
  · exact fun d lv st M Q => jx_ev_st (jx_fok (by decide +kernel : decode (jx_mb 48) 22 = .ok (.bipush (-3), 2))) rfl rfl rfl
  · exact fun d lv M Q x => jx_k_ri (jx_fok (by decide +kernel : decode (jx_mb 48) 24 = .ok (.ireturn, 1))) rfl
  · exact fun d st M Q l1 l2 x => jx_ev_st (jx_fok (by decide +kernel : decode (jx_mb 48) 25 = .ok (.aload_n 0, 1))) rfl rfl rfl
  · exact fun d lv st M Q => jx_k_gf (jx_fok (by decide +kernel : decode (jx_mb 48) 26 = .ok (.getfield 55, 3))) rfl rfl rfl
  · exact fun d lv st M Q k hk => jx_k_gf (jx_fok (by decide +kernel : decode (jx_mb 48) 29 = .ok (.getfield 127, 3))) rfl hk rfl
  · exact fun d st M Q l0 l1 l2 x => jx_ev_st (jx_fok (by decide +kernel : decode (jx_mb 48) 32 = .ok (.istore_n 2, 1))) rfl rfl rfl
  · exact fun d st M Q l1 l2 x => jx_ev_st (jx_fok (by decide +kernel : decode (jx_mb 48) 33 = .ok (.aload_n 0, 1))) rfl rfl rfl
  · exact fun d lv st M Q => jx_k_gf (jx_fok (by decide +kernel : decode (jx_mb 48) 34 = .ok (.getfield 55, 3))) rfl rfl rfl
  · exact fun d st M Q l0 l2 x => jx_ev_st (jx_fok (by decide +kernel : decode (jx_mb 48) 37 = .ok (.iload_n 1, 1))) rfl rfl rfl
  · exact fun d lv st M Q x k hk => jx_k_pf0 (jx_fok (by decide +kernel : decode (jx_mb 48) 38 = .ok (.putfield 127, 3))) rfl hk rfl
  · exact fun d st M Q l0 l1 x => jx_ev_st (jx_fok (by decide +kernel : decode (jx_mb 48) 41 = .ok (.iload_n 2, 1))) rfl rfl rfl
  · exact fun d lv M Q x => jx_k_ri (jx_fok (by decide +kernel : decode (jx_mb 48) 42 = .ok (.ireturn, 1))) rfl
theorem kX7_damp (d : Nat) (M : jx_M) (q : Int32 → jx_M → Prop) (a0 a1 : Value) : jx_I d 48 [a0, a1] M q ↔ jx_Ev d 48 0 [some a0, some a1, none] [] M (jx_qI q) := Iff.rfl
set_option maxRecDepth 100000 in
theorem eX7_send :
  (∀ (d : Nat) (st : List Value) (M : jx_M) (Q : jx_Po) (l1 l2 l3 : Option Value) (x : Nat), jx_Ev d 49 0 [some (.ref x), l1, l2, l3] st M Q ↔ jx_Ev d 49 1 [some (.ref x), l1, l2, l3] (.ref x :: st) M Q) ∧
  (∀ (d : Nat) (lv : List (Option Value)) (st : List Value) (M : jx_M) (Q : jx_Po), jx_Ev d 49 1 lv (.ref 0 :: st) M Q ↔ jx_Ev d 49 4 lv (jx_rv (M 0 6) :: st) M Q) ∧
  (∀ (d : Nat) (st : List Value) (M : jx_M) (Q : jx_Po) (l0 l2 l3 : Option Value) (x : Int32), jx_Ev d 49 4 [l0, some (.int x), l2, l3] st M Q ↔ jx_Ev d 49 5 [l0, some (.int x), l2, l3] (.int x :: st) M Q) ∧
  (∀ (d : Nat) (lv : List (Option Value)) (M : jx_M) (Q : jx_Po) (a0 : Int32) (a1 : Nat) (hk : jx_cl a1 = 1), jx_Ev (d + 1) 49 5 lv [.int a0, .ref a1] M Q ↔ jx_I d 6 [.ref a1, .int a0] M (fun x M => jx_Ev (d + 1) 49 8 lv (.int x :: []) M Q)) ∧
  (∀ (d : Nat) (lv : List (Option Value)) (st : List Value) (M : jx_M) (Q : jx_Po) (x : Int32), jx_Ev d 49 8 lv (.int x :: st) M Q ↔ (if x = 0 then jx_Ev d 49 22 lv st M Q else jx_Ev d 49 11 lv st M Q)) ∧
  (∀ (d : Nat) (st : List Value) (M : jx_M) (Q : jx_Po) (l1 l2 l3 : Option Value) (x : Nat), jx_Ev d 49 11 [some (.ref x), l1, l2, l3] st M Q ↔ jx_Ev d 49 12 [some (.ref x), l1, l2, l3] (.ref x :: st) M Q) ∧
  (∀ (d : Nat) (lv : List (Option Value)) (st : List Value) (M : jx_M) (Q : jx_Po), jx_Ev d 49 12 lv (.ref 0 :: st) M Q ↔ jx_Ev d 49 15 lv (jx_rv (M 0 6) :: st) M Q) ∧
  (∀ (d : Nat) (st : List Value) (M : jx_M) (Q : jx_Po) (l0 l1 l3 : Option Value) (x : Int32), jx_Ev d 49 15 [l0, l1, some (.int x), l3] st M Q ↔ jx_Ev d 49 16 [l0, l1, some (.int x), l3] (.int x :: st) M Q) ∧
  (∀ (d : Nat) (lv : List (Option Value)) (M : jx_M) (Q : jx_Po) (a0 : Int32) (a1 : Nat) (hk : jx_cl a1 = 1), jx_Ev (d + 1) 49 16 lv [.int a0, .ref a1] M Q ↔ jx_I d 5 [.ref a1, .int a0] M (fun x M => jx_Ev (d + 1) 49 19 lv (.int x :: []) M Q)) ∧
  (∀ (d : Nat) (lv : List (Option Value)) (st : List Value) (M : jx_M) (Q : jx_Po) (x : Int32), jx_Ev d 49 19 lv (.int x :: st) M Q ↔ (if x = 0 then jx_Ev d 49 22 lv st M Q else jx_Ev d 49 24 lv st M Q)) ∧
  (∀ (d : Nat) (lv : List (Option Value)) (st : List Value) (M : jx_M) (Q : jx_Po), jx_Ev d 49 22 lv st M Q ↔ jx_Ev d 49 23 lv (.int (-1) :: st) M Q) ∧
  (∀ (d : Nat) (lv : List (Option Value)) (M : jx_M) (Q : jx_Po) (x : Int32), jx_Ev d 49 23 lv [.int x] M Q ↔ Q [.int x] M) ∧
  (∀ (d : Nat) (st : List Value) (M : jx_M) (Q : jx_Po) (l1 l2 l3 : Option Value) (x : Nat), jx_Ev d 49 24 [some (.ref x), l1, l2, l3] st M Q ↔ jx_Ev d 49 25 [some (.ref x), l1, l2, l3] (.ref x :: st) M Q) ∧
  (∀ (d : Nat) (lv : List (Option Value)) (st : List Value) (M : jx_M) (Q : jx_Po), jx_Ev d 49 25 lv (.ref 0 :: st) M Q ↔ jx_Ev d 49 28 lv (jx_rv (M 0 6) :: st) M Q) ∧
  (∀ (d : Nat) (lv : List (Option Value)) (st : List Value) (M : jx_M) (Q : jx_Po) (k : Nat) (hk : jx_cl k = 1), jx_Ev d 49 28 lv (.ref k :: st) M Q ↔ jx_Ev d 49 31 lv (.ref (k + 5) :: st) M Q) ∧
  (∀ (d : Nat) (st : List Value) (M : jx_M) (Q : jx_Po) (l0 l2 l3 : Option Value) (x : Int32), jx_Ev d 49 31 [l0, some (.int x), l2, l3] st M Q ↔ jx_Ev d 49 32 [l0, some (.int x), l2, l3] (.int x :: st) M Q) ∧
  (∀ (d : Nat) (lv : List (Option Value)) (st : List Value) (M : jx_M) (Q : jx_Po) (x : Int32) (a : Nat) (ha : jx_cl a = 9), jx_Ev d 49 32 lv (.int x :: .ref a :: st) M Q ↔ (vp_in x (jx_sz a) ∧ jx_Ev d 49 33 lv (.int (M a x.toNatClampNeg) :: st) M Q)) ∧
  (∀ (d : Nat) (st : List Value) (M : jx_M) (Q : jx_Po) (l0 l1 l2 l3 : Option Value) (x : Int32), jx_Ev d 49 33 [l0, l1, l2, l3] (.int x :: st) M Q ↔ jx_Ev d 49 34 [l0, l1, l2, some (.int x)] st M Q) ∧
  (∀ (d : Nat) (st : List Value) (M : jx_M) (Q : jx_Po) (l1 l2 l3 : Option Value) (x : Nat), jx_Ev d 49 34 [some (.ref x), l1, l2, l3] st M Q ↔ jx_Ev d 49 35 [some (.ref x), l1, l2, l3] (.ref x :: st) M Q) ∧
  (∀ (d : Nat) (lv : List (Option Value)) (st : List Value) (M : jx_M) (Q : jx_Po), jx_Ev d 49 35 lv (.ref 0 :: st) M Q ↔ jx_Ev d 49 38 lv (jx_rv (M 0 6) :: st) M Q) ∧
  (∀ (d : Nat) (lv : List (Option Value)) (st : List Value) (M : jx_M) (Q : jx_Po) (k : Nat) (hk : jx_cl k = 1), jx_Ev d 49 38 lv (.ref k :: st) M Q ↔ jx_Ev d 49 41 lv (.ref (k + 5) :: st) M Q) ∧
  (∀ (d : Nat) (st : List Value) (M : jx_M) (Q : jx_Po) (l0 l2 l3 : Option Value) (x : Int32), jx_Ev d 49 41 [l0, some (.int x), l2, l3] st M Q ↔ jx_Ev d 49 42 [l0, some (.int x), l2, l3] (.int x :: st) M Q) ∧
  (∀ (d : Nat) (st : List Value) (M : jx_M) (Q : jx_Po) (l0 l1 l3 : Option Value) (x : Int32), jx_Ev d 49 42 [l0, l1, some (.int x), l3] st M Q ↔ jx_Ev d 49 43 [l0, l1, some (.int x), l3] (.int x :: st) M Q) ∧
  (∀ (d : Nat) (lv : List (Option Value)) (st : List Value) (M : jx_M) (Q : jx_Po) (x z : Int32) (a : Nat) (ha : jx_cl a = 9), jx_Ev d 49 43 lv (.int z :: .int x :: .ref a :: st) M Q ↔ (vp_in x (jx_sz a) ∧ jx_Ev d 49 44 lv st (jx_up M a x.toNatClampNeg z) Q)) ∧
  (∀ (d : Nat) (st : List Value) (M : jx_M) (Q : jx_Po) (l0 l1 l2 : Option Value) (x : Int32), jx_Ev d 49 44 [l0, l1, l2, some (.int x)] st M Q ↔ jx_Ev d 49 45 [l0, l1, l2, some (.int x)] (.int x :: st) M Q) ∧
  (∀ (d : Nat) (lv : List (Option Value)) (M : jx_M) (Q : jx_Po) (x : Int32), jx_Ev d 49 45 lv [.int x] M Q ↔ Q [.int x] M) := by
  refine ⟨?_, ?_, ?_, ?_, ?_, ?_, ?_, ?_, ?_, ?_, ?_, ?_, ?_, ?_, ?_, ?_, ?_, ?_, ?_, ?_, ?_, ?_, ?_, ?_, ?_, ?_⟩
  · exact fun d st M Q l1 l2 l3 x => jx_ev_st (jx_fok (by decide +kernel : decode (jx_mb 49) 0 = .ok (.aload_n 0, 1))) rfl rfl rfl
  · exact fun d lv st M Q => jx_k_gf (jx_fok (by decide +kernel : decode (jx_mb 49) 1 = .ok (.getfield 55, 3))) rfl rfl rfl
  · exact fun d st M Q l0 l2 l3 x => jx_ev_st (jx_fok (by decide +kernel : decode (jx_mb 49) 4 = .ok (.iload_n 1, 1))) rfl rfl rfl
  · exact fun d lv M Q a0 a1 hk => jx_ev_ci (jx_fok (by decide +kernel : decode (jx_mb 49) 5 = .ok (.invokevirtual 111, 3))) rfl (jx_ccV (As := [.int a0]) (rest := []) rfl rfl rfl hk rfl rfl) (by decide)
  · exact fun d lv st M Q x => jx_k_b1 (jx_fok (by decide +kernel : decode (jx_mb 49) 8 = .ok (.ifCond .eq 14, 3))) rfl jx_hEq
  · exact fun d st M Q l1 l2 l3 x => jx_ev_st (jx_fok (by decide +kernel : decode (jx_mb 49) 11 = .ok (.aload_n 0, 1))) rfl rfl rfl
  · exact fun d lv st M Q => jx_k_gf (jx_fok (by decide +kernel : decode (jx_mb 49) 12 = .ok (.getfield 55, 3))) rfl rfl rfl
  · exact fun d st M Q l0 l1 l3 x => jx_ev_st (jx_fok (by decide +kernel : decode (jx_mb 49) 15 = .ok (.iload_n 2, 1))) rfl rfl rfl
  · exact fun d lv M Q a0 a1 hk => jx_ev_ci (jx_fok (by decide +kernel : decode (jx_mb 49) 16 = .ok (.invokevirtual 98, 3))) rfl (jx_ccV (As := [.int a0]) (rest := []) rfl rfl rfl hk rfl rfl) (by decide)
  · exact fun d lv st M Q x => jx_k_b1n (jx_fok (by decide +kernel : decode (jx_mb 49) 19 = .ok (.ifCond .ne 5, 3))) rfl jx_hNe
  · exact fun d lv st M Q => jx_ev_st (jx_fok (by decide +kernel : decode (jx_mb 49) 22 = .ok (.iconst (-1), 1))) rfl rfl rfl
  · exact fun d lv M Q x => jx_k_ri (jx_fok (by decide +kernel : decode (jx_mb 49) 23 = .ok (.ireturn, 1))) rfl
  · exact fun d st M Q l1 l2 l3 x => jx_ev_st (jx_fok (by decide +kernel : decode (jx_mb 49) 24 = .ok (.aload_n 0, 1))) rfl rfl rfl
  · exact fun d lv st M Q => jx_k_gf (jx_fok (by decide +kernel : decode (jx_mb 49) 25 = .ok (.getfield 55, 3))) rfl rfl rfl
  · exact fun d lv st M Q k hk => jx_k_gf (jx_fok (by decide +kernel : decode (jx_mb 49) 28 = .ok (.getfield 120, 3))) rfl hk rfl
  · exact fun d st M Q l0 l2 l3 x => jx_ev_st (jx_fok (by decide +kernel : decode (jx_mb 49) 31 = .ok (.iload_n 1, 1))) rfl rfl rfl
  · exact fun d lv st M Q x a ha => jx_k_al (jx_fok (by decide +kernel : decode (jx_mb 49) 32 = .ok (.iaload, 1))) ha
  · exact fun d st M Q l0 l1 l2 l3 x => jx_ev_st (jx_fok (by decide +kernel : decode (jx_mb 49) 33 = .ok (.istore_n 3, 1))) rfl rfl rfl
  · exact fun d st M Q l1 l2 l3 x => jx_ev_st (jx_fok (by decide +kernel : decode (jx_mb 49) 34 = .ok (.aload_n 0, 1))) rfl rfl rfl
  · exact fun d lv st M Q => jx_k_gf (jx_fok (by decide +kernel : decode (jx_mb 49) 35 = .ok (.getfield 55, 3))) rfl rfl rfl
  · exact fun d lv st M Q k hk => jx_k_gf (jx_fok (by decide +kernel : decode (jx_mb 49) 38 = .ok (.getfield 120, 3))) rfl hk rfl
  · exact fun d st M Q l0 l2 l3 x => jx_ev_st (jx_fok (by decide +kernel : decode (jx_mb 49) 41 = .ok (.iload_n 1, 1))) rfl rfl rfl
  · exact fun d st M Q l0 l1 l3 x => jx_ev_st (jx_fok (by decide +kernel : decode (jx_mb 49) 42 = .ok (.iload_n 2, 1))) rfl rfl rfl
  · exact fun d lv st M Q x z a ha => jx_k_as (jx_fok (by decide +kernel : decode (jx_mb 49) 43 = .ok (.iastore, 1))) ha
  · exact fun d st M Q l0 l1 l2 x => jx_ev_st (jx_fok (by decide +kernel : decode (jx_mb 49) 44 = .ok (.iload_n 3, 1))) rfl rfl rfl
  · exact fun d lv M Q x => jx_k_ri (jx_fok (by decide +kernel : decode (jx_mb 49) 45 = .ok (.ireturn, 1))) rfl
theorem kX7_send (d : Nat) (M : jx_M) (q : Int32 → jx_M → Prop) (a0 a1 a2 : Value) : jx_I d 49 [a0, a1, a2] M q ↔ jx_Ev d 49 0 [some a0, some a1, some a2, none] [] M (jx_qI q) := Iff.rfl
set_option maxRecDepth 100000 in
theorem eX7_loud :
  (∀ (d : Nat) (st : List Value) (M : jx_M) (Q : jx_Po) (l1 l2 : Option Value) (x : Nat), jx_Ev d 50 0 [some (.ref x), l1, l2] st M Q ↔ jx_Ev d 50 1 [some (.ref x), l1, l2] (.ref x :: st) M Q) ∧
  (∀ (d : Nat) (lv : List (Option Value)) (st : List Value) (M : jx_M) (Q : jx_Po), jx_Ev d 50 1 lv (.ref 0 :: st) M Q ↔ jx_Ev d 50 4 lv (jx_rv (M 0 6) :: st) M Q) ∧
  (∀ (d : Nat) (st : List Value) (M : jx_M) (Q : jx_Po) (l0 l2 : Option Value) (x : Int32), jx_Ev d 50 4 [l0, some (.int x), l2] st M Q ↔ jx_Ev d 50 5 [l0, some (.int x), l2] (.int x :: st) M Q) ∧
  (∀ (d : Nat) (lv : List (Option Value)) (M : jx_M) (Q : jx_Po) (a0 : Int32) (a1 : Nat) (hk : jx_cl a1 = 1), jx_Ev (d + 1) 50 5 lv [.int a0, .ref a1] M Q ↔ jx_I d 6 [.ref a1, .int a0] M (fun x M => jx_Ev (d + 1) 50 8 lv (.int x :: []) M Q)) ∧
  (∀ (d : Nat) (lv : List (Option Value)) (st : List Value) (M : jx_M) (Q : jx_Po) (x : Int32), jx_Ev d 50 8 lv (.int x :: st) M Q ↔ (if x = 0 then jx_Ev d 50 11 lv st M Q else jx_Ev d 50 13 lv st M Q)) ∧
  (∀ (d : Nat) (lv : List (Option Value)) (st : List Value) (M : jx_M) (Q : jx_Po), jx_Ev d 50 11 lv st M Q ↔ jx_Ev d 50 12 lv (.int (-1) :: st) M Q) ∧
  (∀ (d : Nat) (lv : List (Option Value)) (M : jx_M) (Q : jx_Po) (x : Int32), jx_Ev d 50 12 lv [.int x] M Q ↔ Q [.int x] M) ∧
  (∀ (d : Nat) (st : List Value) (M : jx_M) (Q : jx_Po) (l0 l1 : Option Value) (x : Int32), jx_Ev d 50 13 [l0, l1, some (.int x)] st M Q ↔ jx_Ev d 50 14 [l0, l1, some (.int x)] (.int x :: st) M Q) ∧
  (∀ (d : Nat) (lv : List (Option Value)) (M : jx_M) (Q : jx_Po) (a0 : Int32), jx_Ev (d + 1) 50 14 lv [.int a0] M Q ↔ jx_I d 82 [.int a0] M (fun x M => jx_Ev (d + 1) 50 17 lv (.int x :: []) M Q)) ∧
  (∀ (d : Nat) (lv : List (Option Value)) (st : List Value) (M : jx_M) (Q : jx_Po) (x : Int32), jx_Ev d 50 17 lv (.int x :: st) M Q ↔ (if x = 0 then jx_Ev d 50 32 lv st M Q else jx_Ev d 50 20 lv st M Q)) ∧
  (∀ (d : Nat) (st : List Value) (M : jx_M) (Q : jx_Po) (l1 l2 : Option Value) (x : Nat), jx_Ev d 50 20 [some (.ref x), l1, l2] st M Q ↔ jx_Ev d 50 21 [some (.ref x), l1, l2] (.ref x :: st) M Q) ∧
  (∀ (d : Nat) (lv : List (Option Value)) (st : List Value) (M : jx_M) (Q : jx_Po), jx_Ev d 50 21 lv (.ref 0 :: st) M Q ↔ jx_Ev d 50 24 lv (jx_rv (M 0 6) :: st) M Q) ∧
  (∀ (d : Nat) (st : List Value) (M : jx_M) (Q : jx_Po) (l0 l2 : Option Value) (x : Int32), jx_Ev d 50 24 [l0, some (.int x), l2] st M Q ↔ jx_Ev d 50 25 [l0, some (.int x), l2] (.int x :: st) M Q) ∧
  (∀ (d : Nat) (st : List Value) (M : jx_M) (Q : jx_Po) (l0 l1 : Option Value) (x : Int32), jx_Ev d 50 25 [l0, l1, some (.int x)] st M Q ↔ jx_Ev d 50 26 [l0, l1, some (.int x)] (.int x :: st) M Q) ∧
  (∀ (d : Nat) (lv : List (Option Value)) (M : jx_M) (Q : jx_Po) (a0 : Int32) (a1 : Int32) (a2 : Nat) (hk : jx_cl a2 = 1), jx_Ev (d + 1) 50 26 lv [.int a0, .int a1, .ref a2] M Q ↔ jx_I d 10 [.ref a2, .int a1, .int a0] M (fun x M => jx_Ev (d + 1) 50 29 lv (.int x :: []) M Q)) ∧
  (∀ (d : Nat) (lv : List (Option Value)) (st : List Value) (M : jx_M) (Q : jx_Po), jx_Ev d 50 29 lv st M Q ↔ jx_Ev d 50 34 lv st M Q) ∧
  (∀ (d : Nat) (lv : List (Option Value)) (st : List Value) (M : jx_M) (Q : jx_Po), jx_Ev d 50 32 lv st M Q ↔ jx_Ev d 50 34 lv (.int (-2) :: st) M Q) ∧
  (∀ (d : Nat) (lv : List (Option Value)) (M : jx_M) (Q : jx_Po) (x : Int32), jx_Ev d 50 34 lv [.int x] M Q ↔ Q [.int x] M) := by
  refine ⟨?_, ?_, ?_, ?_, ?_, ?_, ?_, ?_, ?_, ?_, ?_, ?_, ?_, ?_, ?_, ?_, ?_, ?_⟩
  · exact fun d st M Q l1 l2 x => jx_ev_st (jx_fok (by decide +kernel : decode (jx_mb 50) 0 = .ok (.aload_n 0, 1))) rfl rfl rfl
  · exact fun d lv st M Q => jx_k_gf (jx_fok (by decide +kernel : decode (jx_mb 50) 1 = .ok (.getfield 55, 3))) rfl rfl rfl
  · exact fun d st M Q l0 l2 x => jx_ev_st (jx_fok (by decide +kernel : decode (jx_mb 50) 4 = .ok (.iload_n 1, 1))) rfl rfl rfl
  · exact fun d lv M Q a0 a1 hk => jx_ev_ci (jx_fok (by decide +kernel : decode (jx_mb 50) 5 = .ok (.invokevirtual 111, 3))) rfl (jx_ccV (As := [.int a0]) (rest := []) rfl rfl rfl hk rfl rfl) (by decide)
  · exact fun d lv st M Q x => jx_k_b1n (jx_fok (by decide +kernel : decode (jx_mb 50) 8 = .ok (.ifCond .ne 5, 3))) rfl jx_hNe
  · exact fun d lv st M Q => jx_ev_st (jx_fok (by decide +kernel : decode (jx_mb 50) 11 = .ok (.iconst (-1), 1))) rfl rfl rfl
  · exact fun d lv M Q x => jx_k_ri (jx_fok (by decide +kernel : decode (jx_mb 50) 12 = .ok (.ireturn, 1))) rfl
  · exact fun d st M Q l0 l1 x => jx_ev_st (jx_fok (by decide +kernel : decode (jx_mb 50) 13 = .ok (.iload_n 2, 1))) rfl rfl rfl
  · exact fun d lv M Q a0 => jx_ev_ci (jx_fok (by decide +kernel : decode (jx_mb 50) 14 = .ok (.invokestatic 130, 3))) rfl (jx_ccS (As := [.int a0]) (rest := []) rfl rfl rfl rfl rfl) (by decide)
  · exact fun d lv st M Q x => jx_k_b1 (jx_fok (by decide +kernel : decode (jx_mb 50) 17 = .ok (.ifCond .eq 15, 3))) rfl jx_hEq
  · exact fun d st M Q l1 l2 x => jx_ev_st (jx_fok (by decide +kernel : decode (jx_mb 50) 20 = .ok (.aload_n 0, 1))) rfl rfl rfl
  · exact fun d lv st M Q => jx_k_gf (jx_fok (by decide +kernel : decode (jx_mb 50) 21 = .ok (.getfield 55, 3))) rfl rfl rfl
  · exact fun d st M Q l0 l2 x => jx_ev_st (jx_fok (by decide +kernel : decode (jx_mb 50) 24 = .ok (.iload_n 1, 1))) rfl rfl rfl
  · exact fun d st M Q l0 l1 x => jx_ev_st (jx_fok (by decide +kernel : decode (jx_mb 50) 25 = .ok (.iload_n 2, 1))) rfl rfl rfl
  · exact fun d lv M Q a0 a1 a2 hk => jx_ev_ci (jx_fok (by decide +kernel : decode (jx_mb 50) 26 = .ok (.invokevirtual 133, 3))) rfl (jx_ccV (As := [.int a1, .int a0]) (rest := []) rfl rfl rfl hk rfl rfl) (by decide)
  · exact fun d lv st M Q => jx_k_goto (jx_fok (by decide +kernel : decode (jx_mb 50) 29 = .ok (.goto 5, 3))) rfl
  · exact fun d lv st M Q => jx_ev_st (jx_fok (by decide +kernel : decode (jx_mb 50) 32 = .ok (.bipush (-2), 2))) rfl rfl rfl
  · exact fun d lv M Q x => jx_k_ri (jx_fok (by decide +kernel : decode (jx_mb 50) 34 = .ok (.ireturn, 1))) rfl
theorem kX7_loud (d : Nat) (M : jx_M) (q : Int32 → jx_M → Prop) (a0 a1 a2 : Value) : jx_I d 50 [a0, a1, a2] M q ↔ jx_Ev d 50 0 [some a0, some a1, some a2] [] M (jx_qI q) := Iff.rfl
set_option maxRecDepth 100000 in
theorem eX7_owner :
  (∀ (d : Nat) (st : List Value) (M : jx_M) (Q : jx_Po) (l1 l2 : Option Value) (x : Nat), jx_Ev d 51 0 [some (.ref x), l1, l2] st M Q ↔ jx_Ev d 51 1 [some (.ref x), l1, l2] (.ref x :: st) M Q) ∧
  (∀ (d : Nat) (lv : List (Option Value)) (st : List Value) (M : jx_M) (Q : jx_Po), jx_Ev d 51 1 lv (.ref 0 :: st) M Q ↔ jx_Ev d 51 4 lv (jx_rv (M 0 6) :: st) M Q) ∧
  (∀ (d : Nat) (st : List Value) (M : jx_M) (Q : jx_Po) (l0 l2 : Option Value) (x : Int32), jx_Ev d 51 4 [l0, some (.int x), l2] st M Q ↔ jx_Ev d 51 5 [l0, some (.int x), l2] (.int x :: st) M Q) ∧
  (∀ (d : Nat) (lv : List (Option Value)) (M : jx_M) (Q : jx_Po) (a0 : Int32) (a1 : Nat) (hk : jx_cl a1 = 1), jx_Ev (d + 1) 51 5 lv [.int a0, .ref a1] M Q ↔ jx_I d 6 [.ref a1, .int a0] M (fun x M => jx_Ev (d + 1) 51 8 lv (.int x :: []) M Q)) ∧
  (∀ (d : Nat) (lv : List (Option Value)) (st : List Value) (M : jx_M) (Q : jx_Po) (x : Int32), jx_Ev d 51 8 lv (.int x :: st) M Q ↔ (if x = 0 then jx_Ev d 51 11 lv st M Q else jx_Ev d 51 13 lv st M Q)) ∧
  (∀ (d : Nat) (lv : List (Option Value)) (st : List Value) (M : jx_M) (Q : jx_Po), jx_Ev d 51 11 lv st M Q ↔ jx_Ev d 51 12 lv (.int (-1) :: st) M Q) ∧
  (∀ (d : Nat) (lv : List (Option Value)) (M : jx_M) (Q : jx_Po) (x : Int32), jx_Ev d 51 12 lv [.int x] M Q ↔ Q [.int x] M) ∧
  (∀ (d : Nat) (st : List Value) (M : jx_M) (Q : jx_Po) (l0 l1 : Option Value) (x : Int32), jx_Ev d 51 13 [l0, l1, some (.int x)] st M Q ↔ jx_Ev d 51 14 [l0, l1, some (.int x)] (.int x :: st) M Q) ∧
  (∀ (d : Nat) (lv : List (Option Value)) (M : jx_M) (Q : jx_Po) (a0 : Int32), jx_Ev (d + 1) 51 14 lv [.int a0] M Q ↔ jx_I d 82 [.int a0] M (fun x M => jx_Ev (d + 1) 51 17 lv (.int x :: []) M Q)) ∧
  (∀ (d : Nat) (lv : List (Option Value)) (st : List Value) (M : jx_M) (Q : jx_Po) (x : Int32), jx_Ev d 51 17 lv (.int x :: st) M Q ↔ (if x = 0 then jx_Ev d 51 39 lv st M Q else jx_Ev d 51 20 lv st M Q)) ∧
  (∀ (d : Nat) (st : List Value) (M : jx_M) (Q : jx_Po) (l1 l2 : Option Value) (x : Nat), jx_Ev d 51 20 [some (.ref x), l1, l2] st M Q ↔ jx_Ev d 51 21 [some (.ref x), l1, l2] (.ref x :: st) M Q) ∧
  (∀ (d : Nat) (lv : List (Option Value)) (st : List Value) (M : jx_M) (Q : jx_Po), jx_Ev d 51 21 lv (.ref 0 :: st) M Q ↔ jx_Ev d 51 24 lv (jx_rv (M 0 6) :: st) M Q) ∧
  (∀ (d : Nat) (st : List Value) (M : jx_M) (Q : jx_Po) (l0 l2 : Option Value) (x : Int32), jx_Ev d 51 24 [l0, some (.int x), l2] st M Q ↔ jx_Ev d 51 25 [l0, some (.int x), l2] (.int x :: st) M Q) ∧
  (∀ (d : Nat) (st : List Value) (M : jx_M) (Q : jx_Po) (l0 l1 : Option Value) (x : Int32), jx_Ev d 51 25 [l0, l1, some (.int x)] st M Q ↔ jx_Ev d 51 26 [l0, l1, some (.int x)] (.int x :: st) M Q) ∧
  (∀ (d : Nat) (st : List Value) (M : jx_M) (Q : jx_Po) (l1 l2 : Option Value) (x : Nat), jx_Ev d 51 26 [some (.ref x), l1, l2] st M Q ↔ jx_Ev d 51 27 [some (.ref x), l1, l2] (.ref x :: st) M Q) ∧
  (∀ (d : Nat) (lv : List (Option Value)) (st : List Value) (M : jx_M) (Q : jx_Po), jx_Ev d 51 27 lv (.ref 0 :: st) M Q ↔ jx_Ev d 51 30 lv (jx_rv (M 0 6) :: st) M Q) ∧
  (∀ (d : Nat) (lv : List (Option Value)) (M : jx_M) (Q : jx_Po) (a0 : Nat) (a1 : Int32) (a2 : Int32) (a3 : Nat) (hk : jx_cl a0 = 1), jx_Ev (d + 1) 51 30 lv [.ref a0, .int a1, .int a2, .ref a3] M Q ↔ jx_I d 9 [.ref a0] M (fun x M => jx_Ev (d + 1) 51 33 lv (.int x :: [.int a1, .int a2, .ref a3]) M Q)) ∧
  (∀ (d : Nat) (lv : List (Option Value)) (M : jx_M) (Q : jx_Po) (a0 : Int32) (a1 : Int32) (a2 : Int32) (a3 : Nat) (hk : jx_cl a3 = 1), jx_Ev (d + 1) 51 33 lv [.int a0, .int a1, .int a2, .ref a3] M Q ↔ jx_I d 11 [.ref a3, .int a2, .int a1, .int a0] M (fun x M => jx_Ev (d + 1) 51 36 lv (.int x :: []) M Q)) ∧
  (∀ (d : Nat) (lv : List (Option Value)) (st : List Value) (M : jx_M) (Q : jx_Po), jx_Ev d 51 36 lv st M Q ↔ jx_Ev d 51 41 lv st M Q) ∧
  (∀ (d : Nat) (lv : List (Option Value)) (st : List Value) (M : jx_M) (Q : jx_Po), jx_Ev d 51 39 lv st M Q ↔ jx_Ev d 51 41 lv (.int (-2) :: st) M Q) ∧
  (∀ (d : Nat) (lv : List (Option Value)) (M : jx_M) (Q : jx_Po) (x : Int32), jx_Ev d 51 41 lv [.int x] M Q ↔ Q [.int x] M) := by
  refine ⟨?_, ?_, ?_, ?_, ?_, ?_, ?_, ?_, ?_, ?_, ?_, ?_, ?_, ?_, ?_, ?_, ?_, ?_, ?_, ?_, ?_⟩
  · exact fun d st M Q l1 l2 x => jx_ev_st (jx_fok (by decide +kernel : decode (jx_mb 51) 0 = .ok (.aload_n 0, 1))) rfl rfl rfl
  · exact fun d lv st M Q => jx_k_gf (jx_fok (by decide +kernel : decode (jx_mb 51) 1 = .ok (.getfield 55, 3))) rfl rfl rfl
  · exact fun d st M Q l0 l2 x => jx_ev_st (jx_fok (by decide +kernel : decode (jx_mb 51) 4 = .ok (.iload_n 1, 1))) rfl rfl rfl
  · exact fun d lv M Q a0 a1 hk => jx_ev_ci (jx_fok (by decide +kernel : decode (jx_mb 51) 5 = .ok (.invokevirtual 111, 3))) rfl (jx_ccV (As := [.int a0]) (rest := []) rfl rfl rfl hk rfl rfl) (by decide)
  · exact fun d lv st M Q x => jx_k_b1n (jx_fok (by decide +kernel : decode (jx_mb 51) 8 = .ok (.ifCond .ne 5, 3))) rfl jx_hNe
  · exact fun d lv st M Q => jx_ev_st (jx_fok (by decide +kernel : decode (jx_mb 51) 11 = .ok (.iconst (-1), 1))) rfl rfl rfl
  · exact fun d lv M Q x => jx_k_ri (jx_fok (by decide +kernel : decode (jx_mb 51) 12 = .ok (.ireturn, 1))) rfl
  · exact fun d st M Q l0 l1 x => jx_ev_st (jx_fok (by decide +kernel : decode (jx_mb 51) 13 = .ok (.iload_n 2, 1))) rfl rfl rfl
  · exact fun d lv M Q a0 => jx_ev_ci (jx_fok (by decide +kernel : decode (jx_mb 51) 14 = .ok (.invokestatic 130, 3))) rfl (jx_ccS (As := [.int a0]) (rest := []) rfl rfl rfl rfl rfl) (by decide)
  · exact fun d lv st M Q x => jx_k_b1 (jx_fok (by decide +kernel : decode (jx_mb 51) 17 = .ok (.ifCond .eq 22, 3))) rfl jx_hEq
  · exact fun d st M Q l1 l2 x => jx_ev_st (jx_fok (by decide +kernel : decode (jx_mb 51) 20 = .ok (.aload_n 0, 1))) rfl rfl rfl
  · exact fun d lv st M Q => jx_k_gf (jx_fok (by decide +kernel : decode (jx_mb 51) 21 = .ok (.getfield 55, 3))) rfl rfl rfl
  · exact fun d st M Q l0 l2 x => jx_ev_st (jx_fok (by decide +kernel : decode (jx_mb 51) 24 = .ok (.iload_n 1, 1))) rfl rfl rfl
  · exact fun d st M Q l0 l1 x => jx_ev_st (jx_fok (by decide +kernel : decode (jx_mb 51) 25 = .ok (.iload_n 2, 1))) rfl rfl rfl
  · exact fun d st M Q l1 l2 x => jx_ev_st (jx_fok (by decide +kernel : decode (jx_mb 51) 26 = .ok (.aload_n 0, 1))) rfl rfl rfl
  · exact fun d lv st M Q => jx_k_gf (jx_fok (by decide +kernel : decode (jx_mb 51) 27 = .ok (.getfield 55, 3))) rfl rfl rfl
  · exact fun d lv M Q a0 a1 a2 a3 hk => jx_ev_ci (jx_fok (by decide +kernel : decode (jx_mb 51) 30 = .ok (.invokevirtual 137, 3))) rfl (jx_ccV (As := []) (rest := [.int a1, .int a2, .ref a3]) rfl rfl rfl hk rfl rfl) (by decide)
  · exact fun d lv M Q a0 a1 a2 a3 hk => jx_ev_ci (jx_fok (by decide +kernel : decode (jx_mb 51) 33 = .ok (.invokevirtual 141, 3))) rfl (jx_ccV (As := [.int a2, .int a1, .int a0]) (rest := []) rfl rfl rfl hk rfl rfl) (by decide)
  · exact fun d lv st M Q => jx_k_goto (jx_fok (by decide +kernel : decode (jx_mb 51) 36 = .ok (.goto 5, 3))) rfl
  · exact fun d lv st M Q => jx_ev_st (jx_fok (by decide +kernel : decode (jx_mb 51) 39 = .ok (.bipush (-2), 2))) rfl rfl rfl
  · exact fun d lv M Q x => jx_k_ri (jx_fok (by decide +kernel : decode (jx_mb 51) 41 = .ok (.ireturn, 1))) rfl
theorem kX7_owner (d : Nat) (M : jx_M) (q : Int32 → jx_M → Prop) (a0 a1 a2 : Value) : jx_I d 51 [a0, a1, a2] M q ↔ jx_Ev d 51 0 [some a0, some a1, some a2] [] M (jx_qI q) := Iff.rfl
set_option maxRecDepth 100000 in
theorem eX7_last :
  (∀ (d : Nat) (st : List Value) (M : jx_M) (Q : jx_Po) (l1 l2 : Option Value) (x : Nat), jx_Ev d 52 0 [some (.ref x), l1, l2] st M Q ↔ jx_Ev d 52 1 [some (.ref x), l1, l2] (.ref x :: st) M Q) ∧
  (∀ (d : Nat) (lv : List (Option Value)) (st : List Value) (M : jx_M) (Q : jx_Po), jx_Ev d 52 1 lv (.ref 0 :: st) M Q ↔ jx_Ev d 52 4 lv (jx_rv (M 0 6) :: st) M Q) ∧
  (∀ (d : Nat) (st : List Value) (M : jx_M) (Q : jx_Po) (l0 l2 : Option Value) (x : Int32), jx_Ev d 52 4 [l0, some (.int x), l2] st M Q ↔ jx_Ev d 52 5 [l0, some (.int x), l2] (.int x :: st) M Q) ∧
  (∀ (d : Nat) (lv : List (Option Value)) (M : jx_M) (Q : jx_Po) (a0 : Int32) (a1 : Nat) (hk : jx_cl a1 = 1), jx_Ev (d + 1) 52 5 lv [.int a0, .ref a1] M Q ↔ jx_I d 6 [.ref a1, .int a0] M (fun x M => jx_Ev (d + 1) 52 8 lv (.int x :: []) M Q)) ∧
  (∀ (d : Nat) (lv : List (Option Value)) (st : List Value) (M : jx_M) (Q : jx_Po) (x : Int32), jx_Ev d 52 8 lv (.int x :: st) M Q ↔ (if x = 0 then jx_Ev d 52 11 lv st M Q else jx_Ev d 52 13 lv st M Q)) ∧
  (∀ (d : Nat) (lv : List (Option Value)) (st : List Value) (M : jx_M) (Q : jx_Po), jx_Ev d 52 11 lv st M Q ↔ jx_Ev d 52 12 lv (.int (-1) :: st) M Q) ∧
  (∀ (d : Nat) (lv : List (Option Value)) (M : jx_M) (Q : jx_Po) (x : Int32), jx_Ev d 52 12 lv [.int x] M Q ↔ Q [.int x] M) ∧
  (∀ (d : Nat) (lv : List (Option Value)) (st : List Value) (M : jx_M) (Q : jx_Po), jx_Ev d 52 13 lv st M Q ↔ jx_Ev d 52 15 lv (.int 9 :: st) M Q) ∧
  (∀ (d : Nat) (st : List Value) (M : jx_M) (Q : jx_Po) (l0 l1 l2 : Option Value) (x : Int32), jx_Ev d 52 15 [l0, l1, l2] (.int x :: st) M Q ↔ jx_Ev d 52 16 [l0, l1, some (.int x)] st M Q) ∧
  (∀ (d : Nat) (lv : List (Option Value)) (st : List Value) (M : jx_M) (Q : jx_Po) (x : Int32), jx_Ev d 52 17 lv (.int x :: st) M Q ↔ (if x < 0 then jx_Ev d 52 49 lv st M Q else jx_Ev d 52 20 lv st M Q)) ∧
  (∀ (d : Nat) (st : List Value) (M : jx_M) (Q : jx_Po) (l1 l2 : Option Value) (x : Nat), jx_Ev d 52 20 [some (.ref x), l1, l2] st M Q ↔ jx_Ev d 52 21 [some (.ref x), l1, l2] (.ref x :: st) M Q) ∧
  (∀ (d : Nat) (lv : List (Option Value)) (st : List Value) (M : jx_M) (Q : jx_Po), jx_Ev d 52 21 lv (.ref 0 :: st) M Q ↔ jx_Ev d 52 24 lv (jx_rv (M 0 6) :: st) M Q) ∧
  (∀ (d : Nat) (st : List Value) (M : jx_M) (Q : jx_Po) (l0 l2 : Option Value) (x : Int32), jx_Ev d 52 24 [l0, some (.int x), l2] st M Q ↔ jx_Ev d 52 25 [l0, some (.int x), l2] (.int x :: st) M Q) ∧
  (∀ (d : Nat) (st : List Value) (M : jx_M) (Q : jx_Po) (l0 l1 : Option Value) (x : Int32), jx_Ev d 52 25 [l0, l1, some (.int x)] st M Q ↔ jx_Ev d 52 26 [l0, l1, some (.int x)] (.int x :: st) M Q) ∧
  (∀ (d : Nat) (st : List Value) (M : jx_M) (Q : jx_Po) (l1 l2 : Option Value) (x : Nat), jx_Ev d 52 26 [some (.ref x), l1, l2] st M Q ↔ jx_Ev d 52 27 [some (.ref x), l1, l2] (.ref x :: st) M Q) ∧
  (∀ (d : Nat) (lv : List (Option Value)) (st : List Value) (M : jx_M) (Q : jx_Po), jx_Ev d 52 27 lv (.ref 0 :: st) M Q ↔ jx_Ev d 52 30 lv (jx_rv (M 0 6) :: st) M Q) ∧
  (∀ (d : Nat) (lv : List (Option Value)) (M : jx_M) (Q : jx_Po) (a0 : Nat) (a1 : Int32) (a2 : Int32) (a3 : Nat) (hk : jx_cl a0 = 1), jx_Ev (d + 1) 52 30 lv [.ref a0, .int a1, .int a2, .ref a3] M Q ↔ jx_I d 9 [.ref a0] M (fun x M => jx_Ev (d + 1) 52 33 lv (.int x :: [.int a1, .int a2, .ref a3]) M Q)) ∧
  (∀ (d : Nat) (lv : List (Option Value)) (M : jx_M) (Q : jx_Po) (a0 : Int32) (a1 : Int32) (a2 : Int32) (a3 : Nat) (hk : jx_cl a3 = 1), jx_Ev (d + 1) 52 33 lv [.int a0, .int a1, .int a2, .ref a3] M Q ↔ jx_I d 11 [.ref a3, .int a2, .int a1, .int a0] M (fun x M => jx_Ev (d + 1) 52 36 lv (.int x :: []) M Q)) ∧
  (∀ (d : Nat) (lv : List (Option Value)) (st : List Value) (M : jx_M) (Q : jx_Po), jx_Ev d 52 36 lv st M Q ↔ jx_Ev d 52 38 lv (.int (-9) :: st) M Q) ∧
  (∀ (d : Nat) (lv : List (Option Value)) (st : List Value) (M : jx_M) (Q : jx_Po) (x z : Int32), jx_Ev d 52 38 lv (.int z :: .int x :: st) M Q ↔ (if x = z then jx_Ev d 52 43 lv st M Q else jx_Ev d 52 41 lv st M Q)) ∧
  (∀ (d : Nat) (st : List Value) (M : jx_M) (Q : jx_Po) (l0 l1 : Option Value) (x : Int32), jx_Ev d 52 41 [l0, l1, some (.int x)] st M Q ↔ jx_Ev d 52 42 [l0, l1, some (.int x)] (.int x :: st) M Q) ∧
  (∀ (d : Nat) (lv : List (Option Value)) (M : jx_M) (Q : jx_Po) (x : Int32), jx_Ev d 52 42 lv [.int x] M Q ↔ Q [.int x] M) ∧
  (∀ (d : Nat) (st : List Value) (M : jx_M) (Q : jx_Po) (l0 l1 : Option Value) (x : Int32), jx_Ev d 52 43 [l0, l1, some (.int x)] st M Q ↔ jx_Ev d 52 46 [l0, l1, some (.int (x + (-1)))] st M Q) ∧
  (∀ (d : Nat) (lv : List (Option Value)) (st : List Value) (M : jx_M) (Q : jx_Po), jx_Ev d 52 46 lv st M Q ↔ jx_Ev d 52 16 lv st M Q) ∧
  (∀ (d : Nat) (lv : List (Option Value)) (st : List Value) (M : jx_M) (Q : jx_Po), jx_Ev d 52 49 lv st M Q ↔ jx_Ev d 52 51 lv (.int (-9) :: st) M Q) ∧
  (∀ (d : Nat) (lv : List (Option Value)) (M : jx_M) (Q : jx_Po) (x : Int32), jx_Ev d 52 51 lv [.int x] M Q ↔ Q [.int x] M) := by
  refine ⟨?_, ?_, ?_, ?_, ?_, ?_, ?_, ?_, ?_, ?_, ?_, ?_, ?_, ?_, ?_, ?_, ?_, ?_, ?_, ?_, ?_, ?_, ?_, ?_, ?_, ?_⟩
  · exact fun d st M Q l1 l2 x => jx_ev_st (jx_fok (by decide +kernel : decode (jx_mb 52) 0 = .ok (.aload_n 0, 1))) rfl rfl rfl
  · exact fun d lv st M Q => jx_k_gf (jx_fok (by decide +kernel : decode (jx_mb 52) 1 = .ok (.getfield 55, 3))) rfl rfl rfl
  · exact fun d st M Q l0 l2 x => jx_ev_st (jx_fok (by decide +kernel : decode (jx_mb 52) 4 = .ok (.iload_n 1, 1))) rfl rfl rfl
  · exact fun d lv M Q a0 a1 hk => jx_ev_ci (jx_fok (by decide +kernel : decode (jx_mb 52) 5 = .ok (.invokevirtual 111, 3))) rfl (jx_ccV (As := [.int a0]) (rest := []) rfl rfl rfl hk rfl rfl) (by decide)
  · exact fun d lv st M Q x => jx_k_b1n (jx_fok (by decide +kernel : decode (jx_mb 52) 8 = .ok (.ifCond .ne 5, 3))) rfl jx_hNe
  · exact fun d lv st M Q => jx_ev_st (jx_fok (by decide +kernel : decode (jx_mb 52) 11 = .ok (.iconst (-1), 1))) rfl rfl rfl
  · exact fun d lv M Q x => jx_k_ri (jx_fok (by decide +kernel : decode (jx_mb 52) 12 = .ok (.ireturn, 1))) rfl
  · exact fun d lv st M Q => jx_ev_st (jx_fok (by decide +kernel : decode (jx_mb 52) 13 = .ok (.bipush 9, 2))) rfl rfl rfl
  · exact fun d st M Q l0 l1 l2 x => jx_ev_st (jx_fok (by decide +kernel : decode (jx_mb 52) 15 = .ok (.istore_n 2, 1))) rfl rfl rfl
  · exact fun d lv st M Q x => jx_k_b1 (jx_fok (by decide +kernel : decode (jx_mb 52) 17 = .ok (.ifCond .lt 32, 3))) rfl jx_hLt
  · exact fun d st M Q l1 l2 x => jx_ev_st (jx_fok (by decide +kernel : decode (jx_mb 52) 20 = .ok (.aload_n 0, 1))) rfl rfl rfl
  · exact fun d lv st M Q => jx_k_gf (jx_fok (by decide +kernel : decode (jx_mb 52) 21 = .ok (.getfield 55, 3))) rfl rfl rfl
  · exact fun d st M Q l0 l2 x => jx_ev_st (jx_fok (by decide +kernel : decode (jx_mb 52) 24 = .ok (.iload_n 1, 1))) rfl rfl rfl
  · exact fun d st M Q l0 l1 x => jx_ev_st (jx_fok (by decide +kernel : decode (jx_mb 52) 25 = .ok (.iload_n 2, 1))) rfl rfl rfl
  · exact fun d st M Q l1 l2 x => jx_ev_st (jx_fok (by decide +kernel : decode (jx_mb 52) 26 = .ok (.aload_n 0, 1))) rfl rfl rfl
  · exact fun d lv st M Q => jx_k_gf (jx_fok (by decide +kernel : decode (jx_mb 52) 27 = .ok (.getfield 55, 3))) rfl rfl rfl
  · exact fun d lv M Q a0 a1 a2 a3 hk => jx_ev_ci (jx_fok (by decide +kernel : decode (jx_mb 52) 30 = .ok (.invokevirtual 137, 3))) rfl (jx_ccV (As := []) (rest := [.int a1, .int a2, .ref a3]) rfl rfl rfl hk rfl rfl) (by decide)
  · exact fun d lv M Q a0 a1 a2 a3 hk => jx_ev_ci (jx_fok (by decide +kernel : decode (jx_mb 52) 33 = .ok (.invokevirtual 141, 3))) rfl (jx_ccV (As := [.int a2, .int a1, .int a0]) (rest := []) rfl rfl rfl hk rfl rfl) (by decide)
  · exact fun d lv st M Q => jx_ev_st (jx_fok (by decide +kernel : decode (jx_mb 52) 36 = .ok (.bipush (-9), 2))) rfl rfl rfl
  · exact fun d lv st M Q x z => jx_k_b2 (jx_fok (by decide +kernel : decode (jx_mb 52) 38 = .ok (.if_icmp .eq 5, 3))) rfl jx_hEq
  · exact fun d st M Q l0 l1 x => jx_ev_st (jx_fok (by decide +kernel : decode (jx_mb 52) 41 = .ok (.iload_n 2, 1))) rfl rfl rfl
  · exact fun d lv M Q x => jx_k_ri (jx_fok (by decide +kernel : decode (jx_mb 52) 42 = .ok (.ireturn, 1))) rfl
  · exact fun d st M Q l0 l1 x => jx_ev_st (jx_fok (by decide +kernel : decode (jx_mb 52) 43 = .ok (.iinc 2 (-1), 3))) rfl rfl rfl
  · exact fun d lv st M Q => jx_k_goto (jx_fok (by decide +kernel : decode (jx_mb 52) 46 = .ok (.goto (-30), 3))) rfl
  · exact fun d lv st M Q => jx_ev_st (jx_fok (by decide +kernel : decode (jx_mb 52) 49 = .ok (.bipush (-9), 2))) rfl rfl rfl
  · exact fun d lv M Q x => jx_k_ri (jx_fok (by decide +kernel : decode (jx_mb 52) 51 = .ok (.ireturn, 1))) rfl
theorem eX7_last_16 (d : Nat) (st : List Value) (M : jx_M) (Q : jx_Po) (l0 l1 : Option Value) (x : Int32) : jx_Ev d 52 16 [l0, l1, some (.int x)] st M Q ↔ jx_Ev d 52 17 [l0, l1, some (.int x)] (.int x :: st) M Q := jx_ev_st (jx_fok (by decide +kernel : decode (jx_mb 52) 16 = .ok (.iload_n 2, 1))) rfl rfl rfl
theorem kX7_last (d : Nat) (M : jx_M) (q : Int32 → jx_M → Prop) (a0 a1 : Value) : jx_I d 52 [a0, a1] M q ↔ jx_Ev d 52 0 [some a0, some a1, none] [] M (jx_qI q) := Iff.rfl
set_option maxRecDepth 100000 in
theorem eX7_open :
  (∀ (d : Nat) (st : List Value) (M : jx_M) (Q : jx_Po) (l1 l2 l3 l4 l5 l6 : Option Value) (x : Nat), jx_Ev d 53 0 [some (.ref x), l1, l2, l3, l4, l5, l6] st M Q ↔ jx_Ev d 53 1 [some (.ref x), l1, l2, l3, l4, l5, l6] (.ref x :: st) M Q) ∧
  (∀ (d : Nat) (lv : List (Option Value)) (st : List Value) (M : jx_M) (Q : jx_Po), jx_Ev d 53 1 lv st M Q ↔ jx_Ev d 53 2 lv (.int 0 :: st) M Q) ∧
  (∀ (d : Nat) (lv : List (Option Value)) (st : List Value) (M : jx_M) (Q : jx_Po) (x : Int32), jx_Ev d 53 2 lv (.int x :: .ref 0 :: st) M Q ↔ jx_Ev d 53 5 lv st (jx_up M 0 9 x) Q) ∧
  (∀ (d : Nat) (st : List Value) (M : jx_M) (Q : jx_Po) (l0 l2 l3 l4 l5 l6 : Option Value) (x : Int32), jx_Ev d 53 5 [l0, some (.int x), l2, l3, l4, l5, l6] st M Q ↔ jx_Ev d 53 6 [l0, some (.int x), l2, l3, l4, l5, l6] (.int x :: st) M Q) ∧
  (∀ (d : Nat) (lv : List (Option Value)) (M : jx_M) (Q : jx_Po) (a0 : Int32), jx_Ev (d + 1) 53 6 lv [.int a0] M Q ↔ jx_I d 80 [.int a0] M (fun x M => jx_Ev (d + 1) 53 9 lv (.int x :: []) M Q)) ∧
  (∀ (d : Nat) (lv : List (Option Value)) (st : List Value) (M : jx_M) (Q : jx_Po) (x : Int32), jx_Ev d 53 9 lv (.int x :: st) M Q ↔ (if x = 0 then jx_Ev d 53 12 lv st M Q else jx_Ev d 53 14 lv st M Q)) ∧
  (∀ (d : Nat) (lv : List (Option Value)) (st : List Value) (M : jx_M) (Q : jx_Po), jx_Ev d 53 12 lv st M Q ↔ jx_Ev d 53 13 lv (.int (-1) :: st) M Q) ∧
  (∀ (d : Nat) (lv : List (Option Value)) (M : jx_M) (Q : jx_Po) (x : Int32), jx_Ev d 53 13 lv [.int x] M Q ↔ Q [.int x] M) ∧
  (∀ (d : Nat) (st : List Value) (M : jx_M) (Q : jx_Po) (l0 l1 l3 l4 l5 l6 : Option Value) (x : Int32), jx_Ev d 53 14 [l0, l1, some (.int x), l3, l4, l5, l6] st M Q ↔ jx_Ev d 53 15 [l0, l1, some (.int x), l3, l4, l5, l6] (.int x :: st) M Q) ∧
  (∀ (d : Nat) (lv : List (Option Value)) (M : jx_M) (Q : jx_Po) (a0 : Int32), jx_Ev (d + 1) 53 15 lv [.int a0] M Q ↔ jx_I d 81 [.int a0] M (fun x M => jx_Ev (d + 1) 53 18 lv (.int x :: []) M Q)) ∧
  (∀ (d : Nat) (lv : List (Option Value)) (st : List Value) (M : jx_M) (Q : jx_Po) (x : Int32), jx_Ev d 53 18 lv (.int x :: st) M Q ↔ (if x = 0 then jx_Ev d 53 29 lv st M Q else jx_Ev d 53 21 lv st M Q)) ∧
  (∀ (d : Nat) (st : List Value) (M : jx_M) (Q : jx_Po) (l0 l1 l2 l3 l4 l6 : Option Value) (x : Int32), jx_Ev d 53 21 [l0, l1, l2, l3, l4, some (.int x), l6] st M Q ↔ jx_Ev d 53 23 [l0, l1, l2, l3, l4, some (.int x), l6] (.int x :: st) M Q) ∧
  (∀ (d : Nat) (lv : List (Option Value)) (M : jx_M) (Q : jx_Po) (a0 : Int32), jx_Ev (d + 1) 53 23 lv [.int a0] M Q ↔ jx_I d 54 [.int a0] M (fun x M => jx_Ev (d + 1) 53 26 lv (.int x :: []) M Q)) ∧
  (∀ (d : Nat) (lv : List (Option Value)) (st : List Value) (M : jx_M) (Q : jx_Po) (x : Int32), jx_Ev d 53 26 lv (.int x :: st) M Q ↔ (if x = 0 then jx_Ev d 53 29 lv st M Q else jx_Ev d 53 32 lv st M Q)) ∧
  (∀ (d : Nat) (lv : List (Option Value)) (st : List Value) (M : jx_M) (Q : jx_Po), jx_Ev d 53 29 lv st M Q ↔ jx_Ev d 53 31 lv (.int (-2) :: st) M Q) ∧
  (∀ (d : Nat) (lv : List (Option Value)) (M : jx_M) (Q : jx_Po) (x : Int32), jx_Ev d 53 31 lv [.int x] M Q ↔ Q [.int x] M) ∧
  (∀ (d : Nat) (st : List Value) (M : jx_M) (Q : jx_Po) (l1 l2 l3 l4 l5 l6 : Option Value) (x : Nat), jx_Ev d 53 32 [some (.ref x), l1, l2, l3, l4, l5, l6] st M Q ↔ jx_Ev d 53 33 [some (.ref x), l1, l2, l3, l4, l5, l6] (.ref x :: st) M Q) ∧
  (∀ (d : Nat) (lv : List (Option Value)) (st : List Value) (M : jx_M) (Q : jx_Po), jx_Ev d 53 33 lv (.ref 0 :: st) M Q ↔ jx_Ev d 53 36 lv (.ref 1 :: st) M Q) ∧
  (∀ (d : Nat) (st : List Value) (M : jx_M) (Q : jx_Po) (l0 l2 l3 l4 l5 l6 : Option Value) (x : Int32), jx_Ev d 53 36 [l0, some (.int x), l2, l3, l4, l5, l6] st M Q ↔ jx_Ev d 53 37 [l0, some (.int x), l2, l3, l4, l5, l6] (.int x :: st) M Q) ∧
  (∀ (d : Nat) (lv : List (Option Value)) (st : List Value) (M : jx_M) (Q : jx_Po) (x : Int32), jx_Ev d 53 37 lv (.int x :: .ref 1 :: st) M Q ↔ (vp_in x 4 ∧ jx_Ev d 53 38 lv (.ref (jx_sp x) :: st) M Q)) ∧
  (∀ (d : Nat) (st : List Value) (M : jx_M) (Q : jx_Po) (l0 l1 l3 l4 l5 l6 : Option Value) (x : Int32), jx_Ev d 53 38 [l0, l1, some (.int x), l3, l4, l5, l6] st M Q ↔ jx_Ev d 53 39 [l0, l1, some (.int x), l3, l4, l5, l6] (.int x :: st) M Q) ∧
  (∀ (d : Nat) (st : List Value) (M : jx_M) (Q : jx_Po) (l0 l1 l2 l4 l5 l6 : Option Value) (x : Int32), jx_Ev d 53 39 [l0, l1, l2, some (.int x), l4, l5, l6] st M Q ↔ jx_Ev d 53 40 [l0, l1, l2, some (.int x), l4, l5, l6] (.int x :: st) M Q) ∧
  (∀ (d : Nat) (st : List Value) (M : jx_M) (Q : jx_Po) (l0 l1 l2 l3 l5 l6 : Option Value) (x : Int32), jx_Ev d 53 40 [l0, l1, l2, l3, some (.int x), l5, l6] st M Q ↔ jx_Ev d 53 42 [l0, l1, l2, l3, some (.int x), l5, l6] (.int x :: st) M Q) ∧
  (∀ (d : Nat) (lv : List (Option Value)) (M : jx_M) (Q : jx_Po) (a0 : Int32) (a1 : Int32) (a2 : Int32) (a3 : Nat) (hk : jx_cl a3 = 4), jx_Ev (d + 1) 53 42 lv [.int a0, .int a1, .int a2, .ref a3] M Q ↔ jx_I d 22 [.ref a3, .int a2, .int a1, .int a0] M (fun x M => jx_Ev (d + 1) 53 45 lv (.int x :: []) M Q)) ∧
  (∀ (d : Nat) (st : List Value) (M : jx_M) (Q : jx_Po) (l0 l1 l2 l3 l4 l5 l6 : Option Value) (x : Int32), jx_Ev d 53 45 [l0, l1, l2, l3, l4, l5, l6] (.int x :: st) M Q ↔ jx_Ev d 53 47 [l0, l1, l2, l3, l4, l5, some (.int x)] st M Q) ∧
  (∀ (d : Nat) (st : List Value) (M : jx_M) (Q : jx_Po) (l0 l1 l2 l3 l4 l5 : Option Value) (x : Int32), jx_Ev d 53 47 [l0, l1, l2, l3, l4, l5, some (.int x)] st M Q ↔ jx_Ev d 53 49 [l0, l1, l2, l3, l4, l5, some (.int x)] (.int x :: st) M Q) ∧
  (∀ (d : Nat) (lv : List (Option Value)) (st : List Value) (M : jx_M) (Q : jx_Po) (x : Int32), jx_Ev d 53 49 lv (.int x :: st) M Q ↔ (if x = 0 then jx_Ev d 53 59 lv st M Q else jx_Ev d 53 52 lv st M Q)) ∧
  (∀ (d : Nat) (st : List Value) (M : jx_M) (Q : jx_Po) (l1 l2 l3 l4 l5 l6 : Option Value) (x : Nat), jx_Ev d 53 52 [some (.ref x), l1, l2, l3, l4, l5, l6] st M Q ↔ jx_Ev d 53 53 [some (.ref x), l1, l2, l3, l4, l5, l6] (.ref x :: st) M Q) ∧
  (∀ (d : Nat) (st : List Value) (M : jx_M) (Q : jx_Po) (l0 l1 l2 l3 l4 l5 : Option Value) (x : Int32), jx_Ev d 53 53 [l0, l1, l2, l3, l4, l5, some (.int x)] st M Q ↔ jx_Ev d 53 55 [l0, l1, l2, l3, l4, l5, some (.int x)] (.int x :: st) M Q) ∧
  (∀ (d : Nat) (lv : List (Option Value)) (M : jx_M) (Q : jx_Po) (a0 : Int32), jx_Ev (d + 1) 53 55 lv [.int a0, .ref 0] M Q ↔ jx_I d 83 [.ref 0, .int a0] M (fun x M => jx_Ev (d + 1) 53 58 lv (.int x :: []) M Q)) ∧
  (∀ (d : Nat) (lv : List (Option Value)) (M : jx_M) (Q : jx_Po) (x : Int32), jx_Ev d 53 58 lv [.int x] M Q ↔ Q [.int x] M) ∧
  (∀ (d : Nat) (st : List Value) (M : jx_M) (Q : jx_Po) (l1 l2 l3 l4 l5 l6 : Option Value) (x : Nat), jx_Ev d 53 59 [some (.ref x), l1, l2, l3, l4, l5, l6] st M Q ↔ jx_Ev d 53 60 [some (.ref x), l1, l2, l3, l4, l5, l6] (.ref x :: st) M Q) ∧
  (∀ (d : Nat) (lv : List (Option Value)) (st : List Value) (M : jx_M) (Q : jx_Po), jx_Ev d 53 60 lv (.ref 0 :: st) M Q ↔ jx_Ev d 53 63 lv (jx_rv (M 0 6) :: st) M Q) ∧
  (∀ (d : Nat) (lv : List (Option Value)) (M : jx_M) (Q : jx_Po) (a0 : Nat) (hk : jx_cl a0 = 1), jx_Ev (d + 1) 53 63 lv [.ref a0] M Q ↔ jx_I d 4 [.ref a0] M (fun x M => jx_Ev (d + 1) 53 66 lv (.int x :: []) M Q)) ∧
  (∀ (d : Nat) (lv : List (Option Value)) (st : List Value) (M : jx_M) (Q : jx_Po) (x : Int32), jx_Ev d 53 66 lv (.int x :: st) M Q ↔ (if x = 0 then jx_Ev d 53 69 lv st M Q else jx_Ev d 53 72 lv st M Q)) ∧
  (∀ (d : Nat) (lv : List (Option Value)) (st : List Value) (M : jx_M) (Q : jx_Po), jx_Ev d 53 69 lv st M Q ↔ jx_Ev d 53 71 lv (.int (-3) :: st) M Q) ∧
  (∀ (d : Nat) (lv : List (Option Value)) (M : jx_M) (Q : jx_Po) (x : Int32), jx_Ev d 53 71 lv [.int x] M Q ↔ Q [.int x] M) ∧
  (∀ (d : Nat) (st : List Value) (M : jx_M) (Q : jx_Po) (l0 l1 l2 l3 l5 l6 : Option Value) (x : Int32), jx_Ev d 53 72 [l0, l1, l2, l3, some (.int x), l5, l6] st M Q ↔ jx_Ev d 53 74 [l0, l1, l2, l3, some (.int x), l5, l6] (.int x :: st) M Q) ∧
  (∀ (d : Nat) (st : List Value) (M : jx_M) (Q : jx_Po) (l1 l2 l3 l4 l5 l6 : Option Value) (x : Nat), jx_Ev d 53 74 [some (.ref x), l1, l2, l3, l4, l5, l6] st M Q ↔ jx_Ev d 53 75 [some (.ref x), l1, l2, l3, l4, l5, l6] (.ref x :: st) M Q) ∧
  (∀ (d : Nat) (lv : List (Option Value)) (st : List Value) (M : jx_M) (Q : jx_Po), jx_Ev d 53 75 lv (.ref 0 :: st) M Q ↔ jx_Ev d 53 78 lv (jx_rv (M 0 6) :: st) M Q) ∧
  (∀ (d : Nat) (lv : List (Option Value)) (st : List Value) (M : jx_M) (Q : jx_Po) (k : Nat) (hk : jx_cl k = 1), jx_Ev d 53 78 lv (.ref k :: st) M Q ↔ jx_Ev d 53 81 lv (.int (M k 6) :: st) M Q) ∧
  (∀ (d : Nat) (lv : List (Option Value)) (st : List Value) (M : jx_M) (Q : jx_Po) (x z : Int32), jx_Ev d 53 81 lv (.int z :: .int x :: st) M Q ↔ (if x = z then jx_Ev d 53 84 lv st M Q else jx_Ev d 53 103 lv st M Q)) ∧
  (∀ (d : Nat) (st : List Value) (M : jx_M) (Q : jx_Po) (l1 l2 l3 l4 l5 l6 : Option Value) (x : Nat), jx_Ev d 53 84 [some (.ref x), l1, l2, l3, l4, l5, l6] st M Q ↔ jx_Ev d 53 85 [some (.ref x), l1, l2, l3, l4, l5, l6] (.ref x :: st) M Q) ∧
  (∀ (d : Nat) (lv : List (Option Value)) (st : List Value) (M : jx_M) (Q : jx_Po), jx_Ev d 53 85 lv (.ref 0 :: st) M Q ↔ jx_Ev d 53 88 lv (.ref 7 :: st) M Q) ∧
  (∀ (d : Nat) (st : List Value) (M : jx_M) (Q : jx_Po) (l1 l2 l3 l4 l5 l6 : Option Value) (x : Nat), jx_Ev d 53 88 [some (.ref x), l1, l2, l3, l4, l5, l6] st M Q ↔ jx_Ev d 53 89 [some (.ref x), l1, l2, l3, l4, l5, l6] (.ref x :: st) M Q) ∧
  (∀ (d : Nat) (lv : List (Option Value)) (st : List Value) (M : jx_M) (Q : jx_Po), jx_Ev d 53 89 lv (.ref 0 :: st) M Q ↔ jx_Ev d 53 92 lv (.ref 1 :: st) M Q) ∧
  (∀ (d : Nat) (st : List Value) (M : jx_M) (Q : jx_Po) (l0 l2 l3 l4 l5 l6 : Option Value) (x : Int32), jx_Ev d 53 92 [l0, some (.int x), l2, l3, l4, l5, l6] st M Q ↔ jx_Ev d 53 93 [l0, some (.int x), l2, l3, l4, l5, l6] (.int x :: st) M Q) ∧
  (∀ (d : Nat) (lv : List (Option Value)) (st : List Value) (M : jx_M) (Q : jx_Po) (x : Int32), jx_Ev d 53 93 lv (.int x :: .ref 1 :: st) M Q ↔ (vp_in x 4 ∧ jx_Ev d 53 94 lv (.ref (jx_sp x) :: st) M Q)) ∧
  (∀ (d : Nat) (st : List Value) (M : jx_M) (Q : jx_Po) (l0 l1 l2 l4 l5 l6 : Option Value) (x : Int32), jx_Ev d 53 94 [l0, l1, l2, some (.int x), l4, l5, l6] st M Q ↔ jx_Ev d 53 95 [l0, l1, l2, some (.int x), l4, l5, l6] (.int x :: st) M Q) ∧
  (∀ (d : Nat) (st : List Value) (M : jx_M) (Q : jx_Po) (l0 l1 l2 l3 l5 l6 : Option Value) (x : Int32), jx_Ev d 53 95 [l0, l1, l2, l3, some (.int x), l5, l6] st M Q ↔ jx_Ev d 53 97 [l0, l1, l2, l3, some (.int x), l5, l6] (.int x :: st) M Q) ∧
  (∀ (d : Nat) (lv : List (Option Value)) (M : jx_M) (Q : jx_Po) (a0 : Int32) (a1 : Int32) (a2 : Nat), jx_Ev (d + 1) 53 97 lv [.int a0, .int a1, .ref a2, .ref 7] M Q ↔ jx_I d 12 [.ref 7, .ref a2, .int a1, .int a0] M (fun x M => jx_Ev (d + 1) 53 100 lv (.int x :: []) M Q)) ∧
  (∀ (d : Nat) (lv : List (Option Value)) (st : List Value) (M : jx_M) (Q : jx_Po) (x : Int32), jx_Ev d 53 100 lv (.int x :: st) M Q ↔ (if x = 0 then jx_Ev d 53 103 lv st M Q else jx_Ev d 53 106 lv st M Q)) ∧
  (∀ (d : Nat) (lv : List (Option Value)) (st : List Value) (M : jx_M) (Q : jx_Po), jx_Ev d 53 103 lv st M Q ↔ jx_Ev d 53 105 lv (.int (-2) :: st) M Q) ∧
  (∀ (d : Nat) (lv : List (Option Value)) (M : jx_M) (Q : jx_Po) (x : Int32), jx_Ev d 53 105 lv [.int x] M Q ↔ Q [.int x] M) ∧
  (∀ (d : Nat) (st : List Value) (M : jx_M) (Q : jx_Po) (l1 l2 l3 l4 l5 l6 : Option Value) (x : Nat), jx_Ev d 53 106 [some (.ref x), l1, l2, l3, l4, l5, l6] st M Q ↔ jx_Ev d 53 107 [some (.ref x), l1, l2, l3, l4, l5, l6] (.ref x :: st) M Q) ∧
  (∀ (d : Nat) (st : List Value) (M : jx_M) (Q : jx_Po) (l0 l1 l2 l3 l4 l6 : Option Value) (x : Int32), jx_Ev d 53 107 [l0, l1, l2, l3, l4, some (.int x), l6] st M Q ↔ jx_Ev d 53 109 [l0, l1, l2, l3, l4, some (.int x), l6] (.int x :: st) M Q) ∧
  (∀ (d : Nat) (lv : List (Option Value)) (M : jx_M) (Q : jx_Po) (a0 : Int32), jx_Ev (d + 1) 53 109 lv [.int a0, .ref 0] M Q ↔ jx_I d 55 [.ref 0, .int a0] M (fun x M => jx_Ev (d + 1) 53 112 lv (.int x :: []) M Q)) ∧
  (∀ (d : Nat) (lv : List (Option Value)) (M : jx_M) (Q : jx_Po) (x : Int32), jx_Ev d 53 112 lv [.int x] M Q ↔ Q [.int x] M) := by
  refine ⟨?_, ?_, ?_, ?_, ?_, ?_, ?_, ?_, ?_, ?_, ?_, ?_, ?_, ?_, ?_, ?_, ?_, ?_, ?_, ?_, ?_, ?_, ?_, ?_, ?_, ?_, ?_, ?_, ?_, ?_, ?_, ?_, ?_, ?_, ?_, ?_, ?_, ?_, ?_, ?_, ?_, ?_, ?_, ?_, ?_, ?_, ?_, ?_, ?_, ?_, ?_, ?_, ?_, ?_, ?_, ?_, ?_, ?_⟩
  · exact fun d st M Q l1 l2 l3 l4 l5 l6 x => jx_ev_st (jx_fok (by decide +kernel : decode (jx_mb 53) 0 = .ok (.aload_n 0, 1))) rfl rfl rfl
  · exact fun d lv st M Q => jx_ev_st (jx_fok (by decide +kernel : decode (jx_mb 53) 1 = .ok (.iconst 0, 1))) rfl rfl rfl
  · exact fun d lv st M Q x => jx_k_pf0 (jx_fok (by decide +kernel : decode (jx_mb 53) 2 = .ok (.putfield 66, 3))) rfl rfl rfl
  · exact fun d st M Q l0 l2 l3 l4 l5 l6 x => jx_ev_st (jx_fok (by decide +kernel : decode (jx_mb 53) 5 = .ok (.iload_n 1, 1))) rfl rfl rfl
  · exact fun d lv M Q a0 => jx_ev_ci (jx_fok (by decide +kernel : decode (jx_mb 53) 6 = .ok (.invokestatic 70, 3))) rfl (jx_ccS (As := [.int a0]) (rest := []) rfl rfl rfl rfl rfl) (by decide)
  · exact fun d lv st M Q x => jx_k_b1n (jx_fok (by decide +kernel : decode (jx_mb 53) 9 = .ok (.ifCond .ne 5, 3))) rfl jx_hNe
  · exact fun d lv st M Q => jx_ev_st (jx_fok (by decide +kernel : decode (jx_mb 53) 12 = .ok (.iconst (-1), 1))) rfl rfl rfl
  · exact fun d lv M Q x => jx_k_ri (jx_fok (by decide +kernel : decode (jx_mb 53) 13 = .ok (.ireturn, 1))) rfl
  · exact fun d st M Q l0 l1 l3 l4 l5 l6 x => jx_ev_st (jx_fok (by decide +kernel : decode (jx_mb 53) 14 = .ok (.iload_n 2, 1))) rfl rfl rfl
  · exact fun d lv M Q a0 => jx_ev_ci (jx_fok (by decide +kernel : decode (jx_mb 53) 15 = .ok (.invokestatic 74, 3))) rfl (jx_ccS (As := [.int a0]) (rest := []) rfl rfl rfl rfl rfl) (by decide)
  · exact fun d lv st M Q x => jx_k_b1 (jx_fok (by decide +kernel : decode (jx_mb 53) 18 = .ok (.ifCond .eq 11, 3))) rfl jx_hEq
  · exact fun d st M Q l0 l1 l2 l3 l4 l6 x => jx_ev_st (jx_fok (by decide +kernel : decode (jx_mb 53) 21 = .ok (.iload 5, 2))) rfl rfl rfl
  · exact fun d lv M Q a0 => jx_ev_ci (jx_fok (by decide +kernel : decode (jx_mb 53) 23 = .ok (.invokestatic 144, 3))) rfl (jx_ccS (As := [.int a0]) (rest := []) rfl rfl rfl rfl rfl) (by decide)
  · exact fun d lv st M Q x => jx_k_b1n (jx_fok (by decide +kernel : decode (jx_mb 53) 26 = .ok (.ifCond .ne 6, 3))) rfl jx_hNe
  · exact fun d lv st M Q => jx_ev_st (jx_fok (by decide +kernel : decode (jx_mb 53) 29 = .ok (.bipush (-2), 2))) rfl rfl rfl
  · exact fun d lv M Q x => jx_k_ri (jx_fok (by decide +kernel : decode (jx_mb 53) 31 = .ok (.ireturn, 1))) rfl
  · exact fun d st M Q l1 l2 l3 l4 l5 l6 x => jx_ev_st (jx_fok (by decide +kernel : decode (jx_mb 53) 32 = .ok (.aload_n 0, 1))) rfl rfl rfl
  · exact fun d lv st M Q => jx_k_gf (jx_fok (by decide +kernel : decode (jx_mb 53) 33 = .ok (.getfield 13, 3))) rfl rfl rfl
  · exact fun d st M Q l0 l2 l3 l4 l5 l6 x => jx_ev_st (jx_fok (by decide +kernel : decode (jx_mb 53) 36 = .ok (.iload_n 1, 1))) rfl rfl rfl
  · exact fun d lv st M Q x => jx_k_aa (jx_fok (by decide +kernel : decode (jx_mb 53) 37 = .ok (.aaload, 1)))
  · exact fun d st M Q l0 l1 l3 l4 l5 l6 x => jx_ev_st (jx_fok (by decide +kernel : decode (jx_mb 53) 38 = .ok (.iload_n 2, 1))) rfl rfl rfl
  · exact fun d st M Q l0 l1 l2 l4 l5 l6 x => jx_ev_st (jx_fok (by decide +kernel : decode (jx_mb 53) 39 = .ok (.iload_n 3, 1))) rfl rfl rfl
  · exact fun d st M Q l0 l1 l2 l3 l5 l6 x => jx_ev_st (jx_fok (by decide +kernel : decode (jx_mb 53) 40 = .ok (.iload 4, 2))) rfl rfl rfl
  · exact fun d lv M Q a0 a1 a2 a3 hk => jx_ev_ci (jx_fok (by decide +kernel : decode (jx_mb 53) 42 = .ok (.invokevirtual 77, 3))) rfl (jx_ccV (As := [.int a2, .int a1, .int a0]) (rest := []) rfl rfl rfl hk rfl rfl) (by decide)
  · exact fun d st M Q l0 l1 l2 l3 l4 l5 l6 x => jx_ev_st (jx_fok (by decide +kernel : decode (jx_mb 53) 45 = .ok (.istore 6, 2))) rfl rfl rfl
  · exact fun d st M Q l0 l1 l2 l3 l4 l5 x => jx_ev_st (jx_fok (by decide +kernel : decode (jx_mb 53) 47 = .ok (.iload 6, 2))) rfl rfl rfl
  · exact fun d lv st M Q x => jx_k_b1 (jx_fok (by decide +kernel : decode (jx_mb 53) 49 = .ok (.ifCond .eq 10, 3))) rfl jx_hEq
  · exact fun d st M Q l1 l2 l3 l4 l5 l6 x => jx_ev_st (jx_fok (by decide +kernel : decode (jx_mb 53) 52 = .ok (.aload_n 0, 1))) rfl rfl rfl
  · exact fun d st M Q l0 l1 l2 l3 l4 l5 x => jx_ev_st (jx_fok (by decide +kernel : decode (jx_mb 53) 53 = .ok (.iload 6, 2))) rfl rfl rfl
  · exact fun d lv M Q a0 => jx_ev_ci (jx_fok (by decide +kernel : decode (jx_mb 53) 55 = .ok (.invokevirtual 81, 3))) rfl (jx_ccV (As := [.int a0]) (rest := []) rfl rfl rfl rfl rfl rfl) (by decide)
  · exact fun d lv M Q x => jx_k_ri (jx_fok (by decide +kernel : decode (jx_mb 53) 58 = .ok (.ireturn, 1))) rfl
  · exact fun d st M Q l1 l2 l3 l4 l5 l6 x => jx_ev_st (jx_fok (by decide +kernel : decode (jx_mb 53) 59 = .ok (.aload_n 0, 1))) rfl rfl rfl
  · exact fun d lv st M Q => jx_k_gf (jx_fok (by decide +kernel : decode (jx_mb 53) 60 = .ok (.getfield 55, 3))) rfl rfl rfl
  · exact fun d lv M Q a0 hk => jx_ev_ci (jx_fok (by decide +kernel : decode (jx_mb 53) 63 = .ok (.invokevirtual 123, 3))) rfl (jx_ccV (As := []) (rest := []) rfl rfl rfl hk rfl rfl) (by decide)
  · exact fun d lv st M Q x => jx_k_b1n (jx_fok (by decide +kernel : decode (jx_mb 53) 66 = .ok (.ifCond .ne 6, 3))) rfl jx_hNe
  · exact fun d lv st M Q => jx_ev_st (jx_fok (by decide +kernel : decode (jx_mb 53) 69 = .ok (.bipush (-3), 2))) rfl rfl rfl
  · exact fun d lv M Q x => jx_k_ri (jx_fok (by decide +kernel : decode (jx_mb 53) 71 = .ok (.ireturn, 1))) rfl
  · exact fun d st M Q l0 l1 l2 l3 l5 l6 x => jx_ev_st (jx_fok (by decide +kernel : decode (jx_mb 53) 72 = .ok (.iload 4, 2))) rfl rfl rfl
  · exact fun d st M Q l1 l2 l3 l4 l5 l6 x => jx_ev_st (jx_fok (by decide +kernel : decode (jx_mb 53) 74 = .ok (.aload_n 0, 1))) rfl rfl rfl
  · exact fun d lv st M Q => jx_k_gf (jx_fok (by decide +kernel : decode (jx_mb 53) 75 = .ok (.getfield 55, 3))) rfl rfl rfl
  · exact fun d lv st M Q k hk => jx_k_gf (jx_fok (by decide +kernel : decode (jx_mb 53) 78 = .ok (.getfield 92, 3))) rfl hk rfl
  · exact fun d lv st M Q x z => jx_k_b2n (jx_fok (by decide +kernel : decode (jx_mb 53) 81 = .ok (.if_icmp .ne 22, 3))) rfl jx_hNe
  · exact fun d st M Q l1 l2 l3 l4 l5 l6 x => jx_ev_st (jx_fok (by decide +kernel : decode (jx_mb 53) 84 = .ok (.aload_n 0, 1))) rfl rfl rfl
  · exact fun d lv st M Q => jx_k_gf (jx_fok (by decide +kernel : decode (jx_mb 53) 85 = .ok (.getfield 34, 3))) rfl rfl rfl
  · exact fun d st M Q l1 l2 l3 l4 l5 l6 x => jx_ev_st (jx_fok (by decide +kernel : decode (jx_mb 53) 88 = .ok (.aload_n 0, 1))) rfl rfl rfl
  · exact fun d lv st M Q => jx_k_gf (jx_fok (by decide +kernel : decode (jx_mb 53) 89 = .ok (.getfield 13, 3))) rfl rfl rfl
  · exact fun d st M Q l0 l2 l3 l4 l5 l6 x => jx_ev_st (jx_fok (by decide +kernel : decode (jx_mb 53) 92 = .ok (.iload_n 1, 1))) rfl rfl rfl
  · exact fun d lv st M Q x => jx_k_aa (jx_fok (by decide +kernel : decode (jx_mb 53) 93 = .ok (.aaload, 1)))
  · exact fun d st M Q l0 l1 l2 l4 l5 l6 x => jx_ev_st (jx_fok (by decide +kernel : decode (jx_mb 53) 94 = .ok (.iload_n 3, 1))) rfl rfl rfl
  · exact fun d st M Q l0 l1 l2 l3 l5 l6 x => jx_ev_st (jx_fok (by decide +kernel : decode (jx_mb 53) 95 = .ok (.iload 4, 2))) rfl rfl rfl
  · exact fun d lv M Q a0 a1 a2 => jx_ev_ci (jx_fok (by decide +kernel : decode (jx_mb 53) 97 = .ok (.invokevirtual 147, 3))) rfl (jx_ccV (As := [.ref a2, .int a1, .int a0]) (rest := []) rfl rfl rfl rfl rfl rfl) (by decide)
  · exact fun d lv st M Q x => jx_k_b1n (jx_fok (by decide +kernel : decode (jx_mb 53) 100 = .ok (.ifCond .ne 6, 3))) rfl jx_hNe
  · exact fun d lv st M Q => jx_ev_st (jx_fok (by decide +kernel : decode (jx_mb 53) 103 = .ok (.bipush (-2), 2))) rfl rfl rfl
  · exact fun d lv M Q x => jx_k_ri (jx_fok (by decide +kernel : decode (jx_mb 53) 105 = .ok (.ireturn, 1))) rfl
  · exact fun d st M Q l1 l2 l3 l4 l5 l6 x => jx_ev_st (jx_fok (by decide +kernel : decode (jx_mb 53) 106 = .ok (.aload_n 0, 1))) rfl rfl rfl
  · exact fun d st M Q l0 l1 l2 l3 l4 l6 x => jx_ev_st (jx_fok (by decide +kernel : decode (jx_mb 53) 107 = .ok (.iload 5, 2))) rfl rfl rfl
  · exact fun d lv M Q a0 => jx_ev_ci (jx_fok (by decide +kernel : decode (jx_mb 53) 109 = .ok (.invokevirtual 151, 3))) rfl (jx_ccV (As := [.int a0]) (rest := []) rfl rfl rfl rfl rfl rfl) (by decide)
  · exact fun d lv M Q x => jx_k_ri (jx_fok (by decide +kernel : decode (jx_mb 53) 112 = .ok (.ireturn, 1))) rfl
theorem kX7_open (d : Nat) (M : jx_M) (q : Int32 → jx_M → Prop) (a0 a1 a2 a3 a4 a5 : Value) : jx_I d 53 [a0, a1, a2, a3, a4, a5] M q ↔ jx_Ev d 53 0 [some a0, some a1, some a2, some a3, some a4, some a5, none] [] M (jx_qI q) := Iff.rfl
set_option maxRecDepth 100000 in
theorem eX7_isAskedOfOpenings :
  (∀ (d : Nat) (st : List Value) (M : jx_M) (Q : jx_Po) (x : Int32), jx_Ev d 54 0 [some (.int x)] st M Q ↔ jx_Ev d 54 1 [some (.int x)] (.int x :: st) M Q) ∧
  (∀ (d : Nat) (lv : List (Option Value)) (st : List Value) (M : jx_M) (Q : jx_Po) (x : Int32), jx_Ev d 54 1 lv (.int x :: st) M Q ↔ (if x < 0 then jx_Ev d 54 9 lv st M Q else jx_Ev d 54 4 lv st M Q)) ∧
  (∀ (d : Nat) (st : List Value) (M : jx_M) (Q : jx_Po) (x : Int32), jx_Ev d 54 4 [some (.int x)] st M Q ↔ jx_Ev d 54 5 [some (.int x)] (.int x :: st) M Q) ∧
  (∀ (d : Nat) (lv : List (Option Value)) (st : List Value) (M : jx_M) (Q : jx_Po), jx_Ev d 54 5 lv st M Q ↔ jx_Ev d 54 6 lv (.int 2 :: st) M Q) ∧
  (∀ (d : Nat) (lv : List (Option Value)) (st : List Value) (M : jx_M) (Q : jx_Po) (x z : Int32), jx_Ev d 54 6 lv (.int z :: .int x :: st) M Q ↔ (if x ≤ z then jx_Ev d 54 21 lv st M Q else jx_Ev d 54 9 lv st M Q)) ∧
  (∀ (d : Nat) (st : List Value) (M : jx_M) (Q : jx_Po) (x : Int32), jx_Ev d 54 9 [some (.int x)] st M Q ↔ jx_Ev d 54 10 [some (.int x)] (.int x :: st) M Q) ∧
  (∀ (d : Nat) (lv : List (Option Value)) (st : List Value) (M : jx_M) (Q : jx_Po), jx_Ev d 54 10 lv st M Q ↔ jx_Ev d 54 12 lv (.int 10 :: st) M Q) ∧
  (∀ (d : Nat) (lv : List (Option Value)) (st : List Value) (M : jx_M) (Q : jx_Po) (x z : Int32), jx_Ev d 54 12 lv (.int z :: .int x :: st) M Q ↔ (if x < z then jx_Ev d 54 25 lv st M Q else jx_Ev d 54 15 lv st M Q)) ∧
  (∀ (d : Nat) (st : List Value) (M : jx_M) (Q : jx_Po) (x : Int32), jx_Ev d 54 15 [some (.int x)] st M Q ↔ jx_Ev d 54 16 [some (.int x)] (.int x :: st) M Q) ∧
  (∀ (d : Nat) (lv : List (Option Value)) (st : List Value) (M : jx_M) (Q : jx_Po), jx_Ev d 54 16 lv st M Q ↔ jx_Ev d 54 18 lv (.int 15 :: st) M Q) ∧
  (∀ (d : Nat) (lv : List (Option Value)) (st : List Value) (M : jx_M) (Q : jx_Po) (x z : Int32), jx_Ev d 54 18 lv (.int z :: .int x :: st) M Q ↔ (if z ≤ x then jx_Ev d 54 25 lv st M Q else jx_Ev d 54 21 lv st M Q)) ∧
  (∀ (d : Nat) (lv : List (Option Value)) (st : List Value) (M : jx_M) (Q : jx_Po), jx_Ev d 54 21 lv st M Q ↔ jx_Ev d 54 22 lv (.int 1 :: st) M Q) ∧
  (∀ (d : Nat) (lv : List (Option Value)) (st : List Value) (M : jx_M) (Q : jx_Po), jx_Ev d 54 22 lv st M Q ↔ jx_Ev d 54 26 lv st M Q) ∧
  (∀ (d : Nat) (lv : List (Option Value)) (st : List Value) (M : jx_M) (Q : jx_Po), jx_Ev d 54 25 lv st M Q ↔ jx_Ev d 54 26 lv (.int 0 :: st) M Q) ∧
  (∀ (d : Nat) (lv : List (Option Value)) (M : jx_M) (Q : jx_Po) (x : Int32), jx_Ev d 54 26 lv [.int x] M Q ↔ ((x = 0 ∨ x = 1) ∧ Q [.int x] M)) := by
  refine ⟨?_, ?_, ?_, ?_, ?_, ?_, ?_, ?_, ?_, ?_, ?_, ?_, ?_, ?_, ?_⟩
  · exact fun d st M Q x => jx_ev_st (jx_fok (by decide +kernel : decode (jx_mb 54) 0 = .ok (.iload_n 0, 1))) rfl rfl rfl
  · exact fun d lv st M Q x => jx_k_b1 (jx_fok (by decide +kernel : decode (jx_mb 54) 1 = .ok (.ifCond .lt 8, 3))) rfl jx_hLt
  · exact fun d st M Q x => jx_ev_st (jx_fok (by decide +kernel : decode (jx_mb 54) 4 = .ok (.iload_n 0, 1))) rfl rfl rfl
  · exact fun d lv st M Q => jx_ev_st (jx_fok (by decide +kernel : decode (jx_mb 54) 5 = .ok (.iconst 2, 1))) rfl rfl rfl
  · exact fun d lv st M Q x z => jx_k_b2 (jx_fok (by decide +kernel : decode (jx_mb 54) 6 = .ok (.if_icmp .le 15, 3))) rfl jx_hLe
  · exact fun d st M Q x => jx_ev_st (jx_fok (by decide +kernel : decode (jx_mb 54) 9 = .ok (.iload_n 0, 1))) rfl rfl rfl
  · exact fun d lv st M Q => jx_ev_st (jx_fok (by decide +kernel : decode (jx_mb 54) 10 = .ok (.bipush 10, 2))) rfl rfl rfl
  · exact fun d lv st M Q x z => jx_k_b2 (jx_fok (by decide +kernel : decode (jx_mb 54) 12 = .ok (.if_icmp .lt 13, 3))) rfl jx_hLt
  · exact fun d st M Q x => jx_ev_st (jx_fok (by decide +kernel : decode (jx_mb 54) 15 = .ok (.iload_n 0, 1))) rfl rfl rfl
  · exact fun d lv st M Q => jx_ev_st (jx_fok (by decide +kernel : decode (jx_mb 54) 16 = .ok (.bipush 15, 2))) rfl rfl rfl
  · exact fun d lv st M Q x z => jx_k_b2 (jx_fok (by decide +kernel : decode (jx_mb 54) 18 = .ok (.if_icmp .ge 7, 3))) rfl jx_hGe
  · exact fun d lv st M Q => jx_ev_st (jx_fok (by decide +kernel : decode (jx_mb 54) 21 = .ok (.iconst 1, 1))) rfl rfl rfl
  · exact fun d lv st M Q => jx_k_goto (jx_fok (by decide +kernel : decode (jx_mb 54) 22 = .ok (.goto 4, 3))) rfl
  · exact fun d lv st M Q => jx_ev_st (jx_fok (by decide +kernel : decode (jx_mb 54) 25 = .ok (.iconst 0, 1))) rfl rfl rfl
  · exact fun d lv M Q x => jx_k_rz (jx_fok (by decide +kernel : decode (jx_mb 54) 26 = .ok (.ireturn, 1))) rfl
theorem kX7_isAskedOfOpenings (d : Nat) (M : jx_M) (q : Int32 → jx_M → Prop) (a0 : Value) : jx_I d 54 [a0] M q ↔ jx_Ev d 54 0 [some a0] [] M (jx_qI q) := Iff.rfl
set_option maxRecDepth 100000 in
theorem eX7_openingsAnswer :
  (∀ (d : Nat) (st : List Value) (M : jx_M) (Q : jx_Po) (l0 : Option Value) (x : Int32), jx_Ev d 55 0 [l0, some (.int x)] st M Q ↔ jx_Ev d 55 1 [l0, some (.int x)] (.int x :: st) M Q) ∧
  (∀ (d : Nat) (lv : List (Option Value)) (st : List Value) (M : jx_M) (Q : jx_Po) (x : Int32), jx_Ev d 55 1 lv (.int x :: st) M Q ↔ (if x = 0 then jx_Ev d 55 28 lv st M Q else if x = 1 then jx_Ev d 55 40 lv st M Q else if x = 2 then jx_Ev d 55 52 lv st M Q else jx_Ev d 55 64 lv st M Q)) ∧
  (∀ (d : Nat) (st : List Value) (M : jx_M) (Q : jx_Po) (l1 : Option Value) (x : Nat), jx_Ev d 55 28 [some (.ref x), l1] st M Q ↔ jx_Ev d 55 29 [some (.ref x), l1] (.ref x :: st) M Q) ∧
  (∀ (d : Nat) (lv : List (Option Value)) (st : List Value) (M : jx_M) (Q : jx_Po), jx_Ev d 55 29 lv (.ref 0 :: st) M Q ↔ jx_Ev d 55 32 lv (.ref 7 :: st) M Q) ∧
  (∀ (d : Nat) (st : List Value) (M : jx_M) (Q : jx_Po) (l1 : Option Value) (x : Nat), jx_Ev d 55 32 [some (.ref x), l1] st M Q ↔ jx_Ev d 55 33 [some (.ref x), l1] (.ref x :: st) M Q) ∧
  (∀ (d : Nat) (lv : List (Option Value)) (st : List Value) (M : jx_M) (Q : jx_Po), jx_Ev d 55 33 lv (.ref 0 :: st) M Q ↔ jx_Ev d 55 36 lv (jx_rv (M 0 6) :: st) M Q) ∧
  (∀ (d : Nat) (lv : List (Option Value)) (M : jx_M) (Q : jx_Po) (a0 : Nat), jx_Ev (d + 1) 55 36 lv [.ref a0, .ref 7] M Q ↔ jx_I d 16 [.ref 7, .ref a0] M (fun x M => jx_Ev (d + 1) 55 39 lv (.int x :: []) M Q)) ∧
  (∀ (d : Nat) (lv : List (Option Value)) (M : jx_M) (Q : jx_Po) (x : Int32), jx_Ev d 55 39 lv [.int x] M Q ↔ Q [.int x] M) ∧
  (∀ (d : Nat) (st : List Value) (M : jx_M) (Q : jx_Po) (l1 : Option Value) (x : Nat), jx_Ev d 55 40 [some (.ref x), l1] st M Q ↔ jx_Ev d 55 41 [some (.ref x), l1] (.ref x :: st) M Q) ∧
  (∀ (d : Nat) (lv : List (Option Value)) (st : List Value) (M : jx_M) (Q : jx_Po), jx_Ev d 55 41 lv (.ref 0 :: st) M Q ↔ jx_Ev d 55 44 lv (.ref 7 :: st) M Q) ∧
  (∀ (d : Nat) (st : List Value) (M : jx_M) (Q : jx_Po) (l1 : Option Value) (x : Nat), jx_Ev d 55 44 [some (.ref x), l1] st M Q ↔ jx_Ev d 55 45 [some (.ref x), l1] (.ref x :: st) M Q) ∧
  (∀ (d : Nat) (lv : List (Option Value)) (st : List Value) (M : jx_M) (Q : jx_Po), jx_Ev d 55 45 lv (.ref 0 :: st) M Q ↔ jx_Ev d 55 48 lv (jx_rv (M 0 6) :: st) M Q) ∧
  (∀ (d : Nat) (lv : List (Option Value)) (M : jx_M) (Q : jx_Po) (a0 : Nat), jx_Ev (d + 1) 55 48 lv [.ref a0, .ref 7] M Q ↔ jx_I d 13 [.ref 7, .ref a0] M (fun x M => jx_Ev (d + 1) 55 51 lv (.int x :: []) M Q)) ∧
  (∀ (d : Nat) (lv : List (Option Value)) (M : jx_M) (Q : jx_Po) (x : Int32), jx_Ev d 55 51 lv [.int x] M Q ↔ Q [.int x] M) ∧
  (∀ (d : Nat) (st : List Value) (M : jx_M) (Q : jx_Po) (l1 : Option Value) (x : Nat), jx_Ev d 55 52 [some (.ref x), l1] st M Q ↔ jx_Ev d 55 53 [some (.ref x), l1] (.ref x :: st) M Q) ∧
  (∀ (d : Nat) (lv : List (Option Value)) (st : List Value) (M : jx_M) (Q : jx_Po), jx_Ev d 55 53 lv (.ref 0 :: st) M Q ↔ jx_Ev d 55 56 lv (.ref 7 :: st) M Q) ∧
  (∀ (d : Nat) (st : List Value) (M : jx_M) (Q : jx_Po) (l1 : Option Value) (x : Nat), jx_Ev d 55 56 [some (.ref x), l1] st M Q ↔ jx_Ev d 55 57 [some (.ref x), l1] (.ref x :: st) M Q) ∧
  (∀ (d : Nat) (lv : List (Option Value)) (st : List Value) (M : jx_M) (Q : jx_Po), jx_Ev d 55 57 lv (.ref 0 :: st) M Q ↔ jx_Ev d 55 60 lv (jx_rv (M 0 6) :: st) M Q) ∧
  (∀ (d : Nat) (lv : List (Option Value)) (M : jx_M) (Q : jx_Po) (a0 : Nat), jx_Ev (d + 1) 55 60 lv [.ref a0, .ref 7] M Q ↔ jx_I d 17 [.ref 7, .ref a0] M (fun x M => jx_Ev (d + 1) 55 63 lv (.int x :: []) M Q)) ∧
  (∀ (d : Nat) (lv : List (Option Value)) (M : jx_M) (Q : jx_Po) (x : Int32), jx_Ev d 55 63 lv [.int x] M Q ↔ Q [.int x] M) ∧
  (∀ (d : Nat) (st : List Value) (M : jx_M) (Q : jx_Po) (l1 : Option Value) (x : Nat), jx_Ev d 55 64 [some (.ref x), l1] st M Q ↔ jx_Ev d 55 65 [some (.ref x), l1] (.ref x :: st) M Q) ∧
  (∀ (d : Nat) (lv : List (Option Value)) (st : List Value) (M : jx_M) (Q : jx_Po), jx_Ev d 55 65 lv (.ref 0 :: st) M Q ↔ jx_Ev d 55 68 lv (jx_rv (M 0 6) :: st) M Q) ∧
  (∀ (d : Nat) (st : List Value) (M : jx_M) (Q : jx_Po) (l0 : Option Value) (x : Int32), jx_Ev d 55 68 [l0, some (.int x)] st M Q ↔ jx_Ev d 55 69 [l0, some (.int x)] (.int x :: st) M Q) ∧
  (∀ (d : Nat) (lv : List (Option Value)) (st : List Value) (M : jx_M) (Q : jx_Po), jx_Ev d 55 69 lv st M Q ↔ jx_Ev d 55 71 lv (.int 10 :: st) M Q) ∧
  (∀ (d : Nat) (lv : List (Option Value)) (st : List Value) (M : jx_M) (Q : jx_Po) (x z : Int32), jx_Ev d 55 71 lv (.int z :: .int x :: st) M Q ↔ jx_Ev d 55 72 lv (.int (x - z) :: st) M Q) ∧
  (∀ (d : Nat) (lv : List (Option Value)) (M : jx_M) (Q : jx_Po) (a0 : Int32) (a1 : Nat) (hk : jx_cl a1 = 1), jx_Ev (d + 1) 55 72 lv [.int a0, .ref a1] M Q ↔ jx_I d 5 [.ref a1, .int a0] M (fun x M => jx_Ev (d + 1) 55 75 lv (.int x :: []) M Q)) ∧
  (∀ (d : Nat) (lv : List (Option Value)) (st : List Value) (M : jx_M) (Q : jx_Po) (x : Int32), jx_Ev d 55 75 lv (.int x :: st) M Q ↔ (if x = 0 then jx_Ev d 55 96 lv st M Q else jx_Ev d 55 78 lv st M Q)) ∧
  (∀ (d : Nat) (st : List Value) (M : jx_M) (Q : jx_Po) (l1 : Option Value) (x : Nat), jx_Ev d 55 78 [some (.ref x), l1] st M Q ↔ jx_Ev d 55 79 [some (.ref x), l1] (.ref x :: st) M Q) ∧
  (∀ (d : Nat) (lv : List (Option Value)) (st : List Value) (M : jx_M) (Q : jx_Po), jx_Ev d 55 79 lv (.ref 0 :: st) M Q ↔ jx_Ev d 55 82 lv (.ref 7 :: st) M Q) ∧
  (∀ (d : Nat) (st : List Value) (M : jx_M) (Q : jx_Po) (l1 : Option Value) (x : Nat), jx_Ev d 55 82 [some (.ref x), l1] st M Q ↔ jx_Ev d 55 83 [some (.ref x), l1] (.ref x :: st) M Q) ∧
  (∀ (d : Nat) (lv : List (Option Value)) (st : List Value) (M : jx_M) (Q : jx_Po), jx_Ev d 55 83 lv (.ref 0 :: st) M Q ↔ jx_Ev d 55 86 lv (jx_rv (M 0 6) :: st) M Q) ∧
  (∀ (d : Nat) (st : List Value) (M : jx_M) (Q : jx_Po) (l0 : Option Value) (x : Int32), jx_Ev d 55 86 [l0, some (.int x)] st M Q ↔ jx_Ev d 55 87 [l0, some (.int x)] (.int x :: st) M Q) ∧
  (∀ (d : Nat) (lv : List (Option Value)) (st : List Value) (M : jx_M) (Q : jx_Po), jx_Ev d 55 87 lv st M Q ↔ jx_Ev d 55 89 lv (.int 10 :: st) M Q) ∧
  (∀ (d : Nat) (lv : List (Option Value)) (st : List Value) (M : jx_M) (Q : jx_Po) (x z : Int32), jx_Ev d 55 89 lv (.int z :: .int x :: st) M Q ↔ jx_Ev d 55 90 lv (.int (x - z) :: st) M Q) ∧
  (∀ (d : Nat) (lv : List (Option Value)) (M : jx_M) (Q : jx_Po) (a0 : Int32) (a1 : Nat), jx_Ev (d + 1) 55 90 lv [.int a0, .ref a1, .ref 7] M Q ↔ jx_I d 14 [.ref 7, .ref a1, .int a0] M (fun x M => jx_Ev (d + 1) 55 93 lv (.int x :: []) M Q)) ∧
  (∀ (d : Nat) (lv : List (Option Value)) (st : List Value) (M : jx_M) (Q : jx_Po), jx_Ev d 55 93 lv st M Q ↔ jx_Ev d 55 98 lv st M Q) ∧
  (∀ (d : Nat) (lv : List (Option Value)) (st : List Value) (M : jx_M) (Q : jx_Po), jx_Ev d 55 96 lv st M Q ↔ jx_Ev d 55 98 lv (.int (-9) :: st) M Q) ∧
  (∀ (d : Nat) (lv : List (Option Value)) (M : jx_M) (Q : jx_Po) (x : Int32), jx_Ev d 55 98 lv [.int x] M Q ↔ Q [.int x] M) := by
  refine ⟨?_, ?_, ?_, ?_, ?_, ?_, ?_, ?_, ?_, ?_, ?_, ?_, ?_, ?_, ?_, ?_, ?_, ?_, ?_, ?_, ?_, ?_, ?_, ?_, ?_, ?_, ?_, ?_, ?_, ?_, ?_, ?_, ?_, ?_, ?_, ?_, ?_, ?_⟩
  · exact fun d st M Q l0 x => jx_ev_st (jx_fok (by decide +kernel : decode (jx_mb 55) 0 = .ok (.iload_n 1, 1))) rfl rfl rfl
  · intro d lv st M Q x
    by_cases h0 : x = 0
    · subst h0; rw [if_pos rfl]; exact jx_k_tsi (jx_fok (by decide +kernel : decode (jx_mb 55) 1 = .ok (.tableswitch 63 0 2 #[27, 39, 51], 27))) (by decide) rfl rfl
    rw [if_neg h0]
    by_cases h1 : x = 1
    · subst h1; rw [if_pos rfl]; exact jx_k_tsi (jx_fok (by decide +kernel : decode (jx_mb 55) 1 = .ok (.tableswitch 63 0 2 #[27, 39, 51], 27))) (by decide) rfl rfl
    rw [if_neg h1]
    by_cases h2 : x = 2
    · subst h2; rw [if_pos rfl]; exact jx_k_tsi (jx_fok (by decide +kernel : decode (jx_mb 55) 1 = .ok (.tableswitch 63 0 2 #[27, 39, 51], 27))) (by decide) rfl rfl
    rw [if_neg h2]
    exact jx_k_tso (jx_fok (by decide +kernel : decode (jx_mb 55) 1 = .ok (.tableswitch 63 0 2 #[27, 39, 51], 27))) (by have e := jx_tsx3 (x := x) h0 h1 h2; omega) rfl
  · exact fun d st M Q l1 x => jx_ev_st (jx_fok (by decide +kernel : decode (jx_mb 55) 28 = .ok (.aload_n 0, 1))) rfl rfl rfl
  · exact fun d lv st M Q => jx_k_gf (jx_fok (by decide +kernel : decode (jx_mb 55) 29 = .ok (.getfield 34, 3))) rfl rfl rfl
  · exact fun d st M Q l1 x => jx_ev_st (jx_fok (by decide +kernel : decode (jx_mb 55) 32 = .ok (.aload_n 0, 1))) rfl rfl rfl
  · exact fun d lv st M Q => jx_k_gf (jx_fok (by decide +kernel : decode (jx_mb 55) 33 = .ok (.getfield 55, 3))) rfl rfl rfl
  · exact fun d lv M Q a0 => jx_ev_ci (jx_fok (by decide +kernel : decode (jx_mb 55) 36 = .ok (.invokevirtual 154, 3))) rfl (jx_ccV (As := [.ref a0]) (rest := []) rfl rfl rfl rfl rfl rfl) (by decide)
  · exact fun d lv M Q x => jx_k_ri (jx_fok (by decide +kernel : decode (jx_mb 55) 39 = .ok (.ireturn, 1))) rfl
  · exact fun d st M Q l1 x => jx_ev_st (jx_fok (by decide +kernel : decode (jx_mb 55) 40 = .ok (.aload_n 0, 1))) rfl rfl rfl
  · exact fun d lv st M Q => jx_k_gf (jx_fok (by decide +kernel : decode (jx_mb 55) 41 = .ok (.getfield 34, 3))) rfl rfl rfl
  · exact fun d st M Q l1 x => jx_ev_st (jx_fok (by decide +kernel : decode (jx_mb 55) 44 = .ok (.aload_n 0, 1))) rfl rfl rfl
  · exact fun d lv st M Q => jx_k_gf (jx_fok (by decide +kernel : decode (jx_mb 55) 45 = .ok (.getfield 55, 3))) rfl rfl rfl
  · exact fun d lv M Q a0 => jx_ev_ci (jx_fok (by decide +kernel : decode (jx_mb 55) 48 = .ok (.invokevirtual 158, 3))) rfl (jx_ccV (As := [.ref a0]) (rest := []) rfl rfl rfl rfl rfl rfl) (by decide)
  · exact fun d lv M Q x => jx_k_ri (jx_fok (by decide +kernel : decode (jx_mb 55) 51 = .ok (.ireturn, 1))) rfl
  · exact fun d st M Q l1 x => jx_ev_st (jx_fok (by decide +kernel : decode (jx_mb 55) 52 = .ok (.aload_n 0, 1))) rfl rfl rfl
  · exact fun d lv st M Q => jx_k_gf (jx_fok (by decide +kernel : decode (jx_mb 55) 53 = .ok (.getfield 34, 3))) rfl rfl rfl
  · exact fun d st M Q l1 x => jx_ev_st (jx_fok (by decide +kernel : decode (jx_mb 55) 56 = .ok (.aload_n 0, 1))) rfl rfl rfl
  · exact fun d lv st M Q => jx_k_gf (jx_fok (by decide +kernel : decode (jx_mb 55) 57 = .ok (.getfield 55, 3))) rfl rfl rfl
  · exact fun d lv M Q a0 => jx_ev_ci (jx_fok (by decide +kernel : decode (jx_mb 55) 60 = .ok (.invokevirtual 161, 3))) rfl (jx_ccV (As := [.ref a0]) (rest := []) rfl rfl rfl rfl rfl rfl) (by decide)
  · exact fun d lv M Q x => jx_k_ri (jx_fok (by decide +kernel : decode (jx_mb 55) 63 = .ok (.ireturn, 1))) rfl
  · exact fun d st M Q l1 x => jx_ev_st (jx_fok (by decide +kernel : decode (jx_mb 55) 64 = .ok (.aload_n 0, 1))) rfl rfl rfl
  · exact fun d lv st M Q => jx_k_gf (jx_fok (by decide +kernel : decode (jx_mb 55) 65 = .ok (.getfield 55, 3))) rfl rfl rfl
  · exact fun d st M Q l0 x => jx_ev_st (jx_fok (by decide +kernel : decode (jx_mb 55) 68 = .ok (.iload_n 1, 1))) rfl rfl rfl
  · exact fun d lv st M Q => jx_ev_st (jx_fok (by decide +kernel : decode (jx_mb 55) 69 = .ok (.bipush 10, 2))) rfl rfl rfl
  · exact fun d lv st M Q x z => jx_ev_st (jx_fok (by decide +kernel : decode (jx_mb 55) 71 = .ok (.isub, 1))) rfl rfl rfl
  · exact fun d lv M Q a0 a1 hk => jx_ev_ci (jx_fok (by decide +kernel : decode (jx_mb 55) 72 = .ok (.invokevirtual 98, 3))) rfl (jx_ccV (As := [.int a0]) (rest := []) rfl rfl rfl hk rfl rfl) (by decide)
  · exact fun d lv st M Q x => jx_k_b1 (jx_fok (by decide +kernel : decode (jx_mb 55) 75 = .ok (.ifCond .eq 21, 3))) rfl jx_hEq
  · exact fun d st M Q l1 x => jx_ev_st (jx_fok (by decide +kernel : decode (jx_mb 55) 78 = .ok (.aload_n 0, 1))) rfl rfl rfl
  · exact fun d lv st M Q => jx_k_gf (jx_fok (by decide +kernel : decode (jx_mb 55) 79 = .ok (.getfield 34, 3))) rfl rfl rfl
  · exact fun d st M Q l1 x => jx_ev_st (jx_fok (by decide +kernel : decode (jx_mb 55) 82 = .ok (.aload_n 0, 1))) rfl rfl rfl
  · exact fun d lv st M Q => jx_k_gf (jx_fok (by decide +kernel : decode (jx_mb 55) 83 = .ok (.getfield 55, 3))) rfl rfl rfl
  · exact fun d st M Q l0 x => jx_ev_st (jx_fok (by decide +kernel : decode (jx_mb 55) 86 = .ok (.iload_n 1, 1))) rfl rfl rfl
  · exact fun d lv st M Q => jx_ev_st (jx_fok (by decide +kernel : decode (jx_mb 55) 87 = .ok (.bipush 10, 2))) rfl rfl rfl
  · exact fun d lv st M Q x z => jx_ev_st (jx_fok (by decide +kernel : decode (jx_mb 55) 89 = .ok (.isub, 1))) rfl rfl rfl
  · exact fun d lv M Q a0 a1 => jx_ev_ci (jx_fok (by decide +kernel : decode (jx_mb 55) 90 = .ok (.invokevirtual 164, 3))) rfl (jx_ccV (As := [.ref a1, .int a0]) (rest := []) rfl rfl rfl rfl rfl rfl) (by decide)
  · exact fun d lv st M Q => jx_k_goto (jx_fok (by decide +kernel : decode (jx_mb 55) 93 = .ok (.goto 5, 3))) rfl
  · exact fun d lv st M Q => jx_ev_st (jx_fok (by decide +kernel : decode (jx_mb 55) 96 = .ok (.bipush (-9), 2))) rfl rfl rfl
  · exact fun d lv M Q x => jx_k_ri (jx_fok (by decide +kernel : decode (jx_mb 55) 98 = .ok (.ireturn, 1))) rfl
theorem kX7_openingsAnswer (d : Nat) (M : jx_M) (q : Int32 → jx_M → Prop) (a0 a1 : Value) : jx_I d 55 [a0, a1] M q ↔ jx_Ev d 55 0 [some a0, some a1] [] M (jx_qI q) := Iff.rfl
set_option maxRecDepth 100000 in
theorem eX7_ease :
  (∀ (d : Nat) (st : List Value) (M : jx_M) (Q : jx_Po) (l1 l2 : Option Value) (x : Nat), jx_Ev d 56 0 [some (.ref x), l1, l2] st M Q ↔ jx_Ev d 56 1 [some (.ref x), l1, l2] (.ref x :: st) M Q) ∧
  (∀ (d : Nat) (lv : List (Option Value)) (st : List Value) (M : jx_M) (Q : jx_Po), jx_Ev d 56 1 lv (.ref 0 :: st) M Q ↔ jx_Ev d 56 4 lv (jx_rv (M 0 6) :: st) M Q) ∧
  (∀ (d : Nat) (st : List Value) (M : jx_M) (Q : jx_Po) (l0 l2 : Option Value) (x : Int32), jx_Ev d 56 4 [l0, some (.int x), l2] st M Q ↔ jx_Ev d 56 5 [l0, some (.int x), l2] (.int x :: st) M Q) ∧
  (∀ (d : Nat) (lv : List (Option Value)) (M : jx_M) (Q : jx_Po) (a0 : Int32) (a1 : Nat) (hk : jx_cl a1 = 1), jx_Ev (d + 1) 56 5 lv [.int a0, .ref a1] M Q ↔ jx_I d 5 [.ref a1, .int a0] M (fun x M => jx_Ev (d + 1) 56 8 lv (.int x :: []) M Q)) ∧
  (∀ (d : Nat) (lv : List (Option Value)) (st : List Value) (M : jx_M) (Q : jx_Po) (x : Int32), jx_Ev d 56 8 lv (.int x :: st) M Q ↔ (if x = 0 then jx_Ev d 56 11 lv st M Q else jx_Ev d 56 13 lv st M Q)) ∧
  (∀ (d : Nat) (lv : List (Option Value)) (st : List Value) (M : jx_M) (Q : jx_Po), jx_Ev d 56 11 lv st M Q ↔ jx_Ev d 56 12 lv (.int (-1) :: st) M Q) ∧
  (∀ (d : Nat) (lv : List (Option Value)) (M : jx_M) (Q : jx_Po) (x : Int32), jx_Ev d 56 12 lv [.int x] M Q ↔ Q [.int x] M) ∧
  (∀ (d : Nat) (st : List Value) (M : jx_M) (Q : jx_Po) (l0 l1 : Option Value) (x : Int32), jx_Ev d 56 13 [l0, l1, some (.int x)] st M Q ↔ jx_Ev d 56 14 [l0, l1, some (.int x)] (.int x :: st) M Q) ∧
  (∀ (d : Nat) (lv : List (Option Value)) (st : List Value) (M : jx_M) (Q : jx_Po), jx_Ev d 56 14 lv st M Q ↔ jx_Ev d 56 15 lv (.int (-1) :: st) M Q) ∧
  (∀ (d : Nat) (lv : List (Option Value)) (st : List Value) (M : jx_M) (Q : jx_Po) (x z : Int32), jx_Ev d 56 15 lv (.int z :: .int x :: st) M Q ↔ (if x < z then jx_Ev d 56 24 lv st M Q else jx_Ev d 56 18 lv st M Q)) ∧
  (∀ (d : Nat) (st : List Value) (M : jx_M) (Q : jx_Po) (l0 l1 : Option Value) (x : Int32), jx_Ev d 56 18 [l0, l1, some (.int x)] st M Q ↔ jx_Ev d 56 19 [l0, l1, some (.int x)] (.int x :: st) M Q) ∧
  (∀ (d : Nat) (lv : List (Option Value)) (st : List Value) (M : jx_M) (Q : jx_Po), jx_Ev d 56 19 lv st M Q ↔ jx_Ev d 56 21 lv (.int 6 :: st) M Q) ∧
  (∀ (d : Nat) (lv : List (Option Value)) (st : List Value) (M : jx_M) (Q : jx_Po) (x z : Int32), jx_Ev d 56 21 lv (.int z :: .int x :: st) M Q ↔ (if x < z then jx_Ev d 56 27 lv st M Q else jx_Ev d 56 24 lv st M Q)) ∧
  (∀ (d : Nat) (lv : List (Option Value)) (st : List Value) (M : jx_M) (Q : jx_Po), jx_Ev d 56 24 lv st M Q ↔ jx_Ev d 56 26 lv (.int (-2) :: st) M Q) ∧
  (∀ (d : Nat) (lv : List (Option Value)) (M : jx_M) (Q : jx_Po) (x : Int32), jx_Ev d 56 26 lv [.int x] M Q ↔ Q [.int x] M) ∧
  (∀ (d : Nat) (st : List Value) (M : jx_M) (Q : jx_Po) (l0 l1 : Option Value) (x : Int32), jx_Ev d 56 27 [l0, l1, some (.int x)] st M Q ↔ jx_Ev d 56 28 [l0, l1, some (.int x)] (.int x :: st) M Q) ∧
  (∀ (d : Nat) (lv : List (Option Value)) (st : List Value) (M : jx_M) (Q : jx_Po) (x : Int32), jx_Ev d 56 28 lv (.int x :: st) M Q ↔ (if x < 0 then jx_Ev d 56 46 lv st M Q else jx_Ev d 56 31 lv st M Q)) ∧
  (∀ (d : Nat) (st : List Value) (M : jx_M) (Q : jx_Po) (l1 l2 : Option Value) (x : Nat), jx_Ev d 56 31 [some (.ref x), l1, l2] st M Q ↔ jx_Ev d 56 32 [some (.ref x), l1, l2] (.ref x :: st) M Q) ∧
  (∀ (d : Nat) (lv : List (Option Value)) (st : List Value) (M : jx_M) (Q : jx_Po), jx_Ev d 56 32 lv (.ref 0 :: st) M Q ↔ jx_Ev d 56 35 lv (jx_rv (M 0 6) :: st) M Q) ∧
  (∀ (d : Nat) (st : List Value) (M : jx_M) (Q : jx_Po) (l0 l1 : Option Value) (x : Int32), jx_Ev d 56 35 [l0, l1, some (.int x)] st M Q ↔ jx_Ev d 56 36 [l0, l1, some (.int x)] (.int x :: st) M Q) ∧
  (∀ (d : Nat) (st : List Value) (M : jx_M) (Q : jx_Po) (l0 l2 : Option Value) (x : Int32), jx_Ev d 56 36 [l0, some (.int x), l2] st M Q ↔ jx_Ev d 56 37 [l0, some (.int x), l2] (.int x :: st) M Q) ∧
  (∀ (d : Nat) (lv : List (Option Value)) (M : jx_M) (Q : jx_Po) (a0 : Int32) (a1 : Int32) (a2 : Nat) (hk : jx_cl a2 = 1), jx_Ev (d + 1) 56 37 lv [.int a0, .int a1, .ref a2] M Q ↔ jx_I d 7 [.ref a2, .int a1, .int a0] M (fun x M => jx_Ev (d + 1) 56 40 lv (.int x :: []) M Q)) ∧
  (∀ (d : Nat) (lv : List (Option Value)) (st : List Value) (M : jx_M) (Q : jx_Po) (x : Int32), jx_Ev d 56 40 lv (.int x :: st) M Q ↔ (if x = 0 then jx_Ev d 56 43 lv st M Q else jx_Ev d 56 46 lv st M Q)) ∧
  (∀ (d : Nat) (lv : List (Option Value)) (st : List Value) (M : jx_M) (Q : jx_Po), jx_Ev d 56 43 lv st M Q ↔ jx_Ev d 56 45 lv (.int (-9) :: st) M Q) ∧
  (∀ (d : Nat) (lv : List (Option Value)) (M : jx_M) (Q : jx_Po) (x : Int32), jx_Ev d 56 45 lv [.int x] M Q ↔ Q [.int x] M) ∧
  (∀ (d : Nat) (st : List Value) (M : jx_M) (Q : jx_Po) (l1 l2 : Option Value) (x : Nat), jx_Ev d 56 46 [some (.ref x), l1, l2] st M Q ↔ jx_Ev d 56 47 [some (.ref x), l1, l2] (.ref x :: st) M Q) ∧
  (∀ (d : Nat) (lv : List (Option Value)) (st : List Value) (M : jx_M) (Q : jx_Po), jx_Ev d 56 47 lv (.ref 0 :: st) M Q ↔ jx_Ev d 56 50 lv (.ref 9 :: st) M Q) ∧
  (∀ (d : Nat) (st : List Value) (M : jx_M) (Q : jx_Po) (l1 l2 : Option Value) (x : Nat), jx_Ev d 56 50 [some (.ref x), l1, l2] st M Q ↔ jx_Ev d 56 51 [some (.ref x), l1, l2] (.ref x :: st) M Q) ∧
  (∀ (d : Nat) (lv : List (Option Value)) (st : List Value) (M : jx_M) (Q : jx_Po), jx_Ev d 56 51 lv (.ref 0 :: st) M Q ↔ jx_Ev d 56 54 lv (jx_rv (M 0 6) :: st) M Q) ∧
  (∀ (d : Nat) (st : List Value) (M : jx_M) (Q : jx_Po) (l0 l2 : Option Value) (x : Int32), jx_Ev d 56 54 [l0, some (.int x), l2] st M Q ↔ jx_Ev d 56 55 [l0, some (.int x), l2] (.int x :: st) M Q) ∧
  (∀ (d : Nat) (lv : List (Option Value)) (M : jx_M) (Q : jx_Po) (a0 : Int32) (a1 : Nat), jx_Ev (d + 1) 56 55 lv [.int a0, .ref a1, .ref 9] M Q ↔ jx_V d 0 [.ref 9, .ref a1, .int a0] M (fun M => jx_Ev (d + 1) 56 58 lv [] M Q)) ∧
  (∀ (d : Nat) (st : List Value) (M : jx_M) (Q : jx_Po) (l0 l1 : Option Value) (x : Int32), jx_Ev d 56 58 [l0, l1, some (.int x)] st M Q ↔ jx_Ev d 56 59 [l0, l1, some (.int x)] (.int x :: st) M Q) ∧
  (∀ (d : Nat) (lv : List (Option Value)) (st : List Value) (M : jx_M) (Q : jx_Po) (x : Int32), jx_Ev d 56 59 lv (.int x :: st) M Q ↔ (if 0 ≤ x then jx_Ev d 56 72 lv st M Q else jx_Ev d 56 62 lv st M Q)) ∧
  (∀ (d : Nat) (st : List Value) (M : jx_M) (Q : jx_Po) (l1 l2 : Option Value) (x : Nat), jx_Ev d 56 62 [some (.ref x), l1, l2] st M Q ↔ jx_Ev d 56 63 [some (.ref x), l1, l2] (.ref x :: st) M Q) ∧
  (∀ (d : Nat) (lv : List (Option Value)) (st : List Value) (M : jx_M) (Q : jx_Po), jx_Ev d 56 63 lv (.ref 0 :: st) M Q ↔ jx_Ev d 56 66 lv (.ref 9 :: st) M Q) ∧
  (∀ (d : Nat) (lv : List (Option Value)) (st : List Value) (M : jx_M) (Q : jx_Po), jx_Ev d 56 66 lv (.ref 9 :: st) M Q ↔ jx_Ev d 56 69 lv (.int (M 9 1) :: st) M Q) ∧
  (∀ (d : Nat) (lv : List (Option Value)) (st : List Value) (M : jx_M) (Q : jx_Po), jx_Ev d 56 69 lv st M Q ↔ jx_Ev d 56 81 lv st M Q) ∧
  (∀ (d : Nat) (st : List Value) (M : jx_M) (Q : jx_Po) (l1 l2 : Option Value) (x : Nat), jx_Ev d 56 72 [some (.ref x), l1, l2] st M Q ↔ jx_Ev d 56 73 [some (.ref x), l1, l2] (.ref x :: st) M Q) ∧
  (∀ (d : Nat) (lv : List (Option Value)) (st : List Value) (M : jx_M) (Q : jx_Po), jx_Ev d 56 73 lv (.ref 0 :: st) M Q ↔ jx_Ev d 56 76 lv (.ref 9 :: st) M Q) ∧
  (∀ (d : Nat) (lv : List (Option Value)) (st : List Value) (M : jx_M) (Q : jx_Po), jx_Ev d 56 76 lv (.ref 9 :: st) M Q ↔ jx_Ev d 56 79 lv (.ref 10 :: st) M Q) ∧
  (∀ (d : Nat) (st : List Value) (M : jx_M) (Q : jx_Po) (l0 l1 : Option Value) (x : Int32), jx_Ev d 56 79 [l0, l1, some (.int x)] st M Q ↔ jx_Ev d 56 80 [l0, l1, some (.int x)] (.int x :: st) M Q) ∧
  (∀ (d : Nat) (lv : List (Option Value)) (st : List Value) (M : jx_M) (Q : jx_Po) (x : Int32) (a : Nat) (ha : jx_cl a = 9), jx_Ev d 56 80 lv (.int x :: .ref a :: st) M Q ↔ (vp_in x (jx_sz a) ∧ jx_Ev d 56 81 lv (.int (M a x.toNatClampNeg) :: st) M Q)) ∧
  (∀ (d : Nat) (lv : List (Option Value)) (M : jx_M) (Q : jx_Po) (x : Int32), jx_Ev d 56 81 lv [.int x] M Q ↔ Q [.int x] M) := by
  refine ⟨?_, ?_, ?_, ?_, ?_, ?_, ?_, ?_, ?_, ?_, ?_, ?_, ?_, ?_, ?_, ?_, ?_, ?_, ?_, ?_, ?_, ?_, ?_, ?_, ?_, ?_, ?_, ?_, ?_, ?_, ?_, ?_, ?_, ?_, ?_, ?_, ?_, ?_, ?_, ?_, ?_, ?_, ?_⟩
  · exact fun d st M Q l1 l2 x => jx_ev_st (jx_fok (by decide +kernel : decode (jx_mb 56) 0 = .ok (.aload_n 0, 1))) rfl rfl rfl
  · exact fun d lv st M Q => jx_k_gf (jx_fok (by decide +kernel : decode (jx_mb 56) 1 = .ok (.getfield 55, 3))) rfl rfl rfl
  · exact fun d st M Q l0 l2 x => jx_ev_st (jx_fok (by decide +kernel : decode (jx_mb 56) 4 = .ok (.iload_n 1, 1))) rfl rfl rfl
  · exact fun d lv M Q a0 a1 hk => jx_ev_ci (jx_fok (by decide +kernel : decode (jx_mb 56) 5 = .ok (.invokevirtual 98, 3))) rfl (jx_ccV (As := [.int a0]) (rest := []) rfl rfl rfl hk rfl rfl) (by decide)
  · exact fun d lv st M Q x => jx_k_b1n (jx_fok (by decide +kernel : decode (jx_mb 56) 8 = .ok (.ifCond .ne 5, 3))) rfl jx_hNe
  · exact fun d lv st M Q => jx_ev_st (jx_fok (by decide +kernel : decode (jx_mb 56) 11 = .ok (.iconst (-1), 1))) rfl rfl rfl
  · exact fun d lv M Q x => jx_k_ri (jx_fok (by decide +kernel : decode (jx_mb 56) 12 = .ok (.ireturn, 1))) rfl
  · exact fun d st M Q l0 l1 x => jx_ev_st (jx_fok (by decide +kernel : decode (jx_mb 56) 13 = .ok (.iload_n 2, 1))) rfl rfl rfl
  · exact fun d lv st M Q => jx_ev_st (jx_fok (by decide +kernel : decode (jx_mb 56) 14 = .ok (.iconst (-1), 1))) rfl rfl rfl
  · exact fun d lv st M Q x z => jx_k_b2 (jx_fok (by decide +kernel : decode (jx_mb 56) 15 = .ok (.if_icmp .lt 9, 3))) rfl jx_hLt
  · exact fun d st M Q l0 l1 x => jx_ev_st (jx_fok (by decide +kernel : decode (jx_mb 56) 18 = .ok (.iload_n 2, 1))) rfl rfl rfl
  · exact fun d lv st M Q => jx_ev_st (jx_fok (by decide +kernel : decode (jx_mb 56) 19 = .ok (.bipush 6, 2))) rfl rfl rfl
  · exact fun d lv st M Q x z => jx_k_b2 (jx_fok (by decide +kernel : decode (jx_mb 56) 21 = .ok (.if_icmp .lt 6, 3))) rfl jx_hLt
  · exact fun d lv st M Q => jx_ev_st (jx_fok (by decide +kernel : decode (jx_mb 56) 24 = .ok (.bipush (-2), 2))) rfl rfl rfl
  · exact fun d lv M Q x => jx_k_ri (jx_fok (by decide +kernel : decode (jx_mb 56) 26 = .ok (.ireturn, 1))) rfl
  · exact fun d st M Q l0 l1 x => jx_ev_st (jx_fok (by decide +kernel : decode (jx_mb 56) 27 = .ok (.iload_n 2, 1))) rfl rfl rfl
  · exact fun d lv st M Q x => jx_k_b1 (jx_fok (by decide +kernel : decode (jx_mb 56) 28 = .ok (.ifCond .lt 18, 3))) rfl jx_hLt
  · exact fun d st M Q l1 l2 x => jx_ev_st (jx_fok (by decide +kernel : decode (jx_mb 56) 31 = .ok (.aload_n 0, 1))) rfl rfl rfl
  · exact fun d lv st M Q => jx_k_gf (jx_fok (by decide +kernel : decode (jx_mb 56) 32 = .ok (.getfield 55, 3))) rfl rfl rfl
  · exact fun d st M Q l0 l1 x => jx_ev_st (jx_fok (by decide +kernel : decode (jx_mb 56) 35 = .ok (.iload_n 2, 1))) rfl rfl rfl
  · exact fun d st M Q l0 l2 x => jx_ev_st (jx_fok (by decide +kernel : decode (jx_mb 56) 36 = .ok (.iload_n 1, 1))) rfl rfl rfl
  · exact fun d lv M Q a0 a1 a2 hk => jx_ev_ci (jx_fok (by decide +kernel : decode (jx_mb 56) 37 = .ok (.invokevirtual 168, 3))) rfl (jx_ccV (As := [.int a1, .int a0]) (rest := []) rfl rfl rfl hk rfl rfl) (by decide)
  · exact fun d lv st M Q x => jx_k_b1n (jx_fok (by decide +kernel : decode (jx_mb 56) 40 = .ok (.ifCond .ne 6, 3))) rfl jx_hNe
  · exact fun d lv st M Q => jx_ev_st (jx_fok (by decide +kernel : decode (jx_mb 56) 43 = .ok (.bipush (-9), 2))) rfl rfl rfl
  · exact fun d lv M Q x => jx_k_ri (jx_fok (by decide +kernel : decode (jx_mb 56) 45 = .ok (.ireturn, 1))) rfl
  · exact fun d st M Q l1 l2 x => jx_ev_st (jx_fok (by decide +kernel : decode (jx_mb 56) 46 = .ok (.aload_n 0, 1))) rfl rfl rfl
  · exact fun d lv st M Q => jx_k_gf (jx_fok (by decide +kernel : decode (jx_mb 56) 47 = .ok (.getfield 41, 3))) rfl rfl rfl
  · exact fun d st M Q l1 l2 x => jx_ev_st (jx_fok (by decide +kernel : decode (jx_mb 56) 50 = .ok (.aload_n 0, 1))) rfl rfl rfl
  · exact fun d lv st M Q => jx_k_gf (jx_fok (by decide +kernel : decode (jx_mb 56) 51 = .ok (.getfield 55, 3))) rfl rfl rfl
  · exact fun d st M Q l0 l2 x => jx_ev_st (jx_fok (by decide +kernel : decode (jx_mb 56) 54 = .ok (.iload_n 1, 1))) rfl rfl rfl
  · exact fun d lv M Q a0 a1 => jx_ev_cv (jx_fok (by decide +kernel : decode (jx_mb 56) 55 = .ok (.invokevirtual 172, 3))) rfl (jx_ccV (As := [.ref a1, .int a0]) (rest := []) rfl rfl rfl rfl rfl rfl) rfl
  · exact fun d st M Q l0 l1 x => jx_ev_st (jx_fok (by decide +kernel : decode (jx_mb 56) 58 = .ok (.iload_n 2, 1))) rfl rfl rfl
  · exact fun d lv st M Q x => jx_k_b1 (jx_fok (by decide +kernel : decode (jx_mb 56) 59 = .ok (.ifCond .ge 13, 3))) rfl jx_hGe
  · exact fun d st M Q l1 l2 x => jx_ev_st (jx_fok (by decide +kernel : decode (jx_mb 56) 62 = .ok (.aload_n 0, 1))) rfl rfl rfl
  · exact fun d lv st M Q => jx_k_gf (jx_fok (by decide +kernel : decode (jx_mb 56) 63 = .ok (.getfield 41, 3))) rfl rfl rfl
  · exact fun d lv st M Q => jx_k_gf (jx_fok (by decide +kernel : decode (jx_mb 56) 66 = .ok (.getfield 176, 3))) rfl rfl rfl
  · exact fun d lv st M Q => jx_k_goto (jx_fok (by decide +kernel : decode (jx_mb 56) 69 = .ok (.goto 12, 3))) rfl
  · exact fun d st M Q l1 l2 x => jx_ev_st (jx_fok (by decide +kernel : decode (jx_mb 56) 72 = .ok (.aload_n 0, 1))) rfl rfl rfl
  · exact fun d lv st M Q => jx_k_gf (jx_fok (by decide +kernel : decode (jx_mb 56) 73 = .ok (.getfield 41, 3))) rfl rfl rfl
  · exact fun d lv st M Q => jx_k_gf (jx_fok (by decide +kernel : decode (jx_mb 56) 76 = .ok (.getfield 179, 3))) rfl rfl rfl
  · exact fun d st M Q l0 l1 x => jx_ev_st (jx_fok (by decide +kernel : decode (jx_mb 56) 79 = .ok (.iload_n 2, 1))) rfl rfl rfl
  · exact fun d lv st M Q x a ha => jx_k_al (jx_fok (by decide +kernel : decode (jx_mb 56) 80 = .ok (.iaload, 1))) ha
  · exact fun d lv M Q x => jx_k_ri (jx_fok (by decide +kernel : decode (jx_mb 56) 81 = .ok (.ireturn, 1))) rfl
theorem kX7_ease (d : Nat) (M : jx_M) (q : Int32 → jx_M → Prop) (a0 a1 a2 : Value) : jx_I d 56 [a0, a1, a2] M q ↔ jx_Ev d 56 0 [some a0, some a1, some a2] [] M (jx_qI q) := Iff.rfl
set_option maxRecDepth 100000 in
theorem eX7_shelf :
  (∀ (d : Nat) (st : List Value) (M : jx_M) (Q : jx_Po) (l1 l2 l3 l4 l5 l6 : Option Value) (x : Nat), jx_Ev d 57 0 [some (.ref x), l1, l2, l3, l4, l5, l6] st M Q ↔ jx_Ev d 57 1 [some (.ref x), l1, l2, l3, l4, l5, l6] (.ref x :: st) M Q) ∧
  (∀ (d : Nat) (lv : List (Option Value)) (st : List Value) (M : jx_M) (Q : jx_Po), jx_Ev d 57 1 lv st M Q ↔ jx_Ev d 57 2 lv (.int 0 :: st) M Q) ∧
  (∀ (d : Nat) (lv : List (Option Value)) (st : List Value) (M : jx_M) (Q : jx_Po) (x : Int32), jx_Ev d 57 2 lv (.int x :: .ref 0 :: st) M Q ↔ jx_Ev d 57 5 lv st (jx_up M 0 9 x) Q) ∧
  (∀ (d : Nat) (st : List Value) (M : jx_M) (Q : jx_Po) (l0 l1 l3 l4 l5 l6 : Option Value) (x : Int32), jx_Ev d 57 5 [l0, l1, some (.int x), l3, l4, l5, l6] st M Q ↔ jx_Ev d 57 6 [l0, l1, some (.int x), l3, l4, l5, l6] (.int x :: st) M Q) ∧
  (∀ (d : Nat) (lv : List (Option Value)) (M : jx_M) (Q : jx_Po) (a0 : Int32), jx_Ev (d + 1) 57 6 lv [.int a0] M Q ↔ jx_I d 80 [.int a0] M (fun x M => jx_Ev (d + 1) 57 9 lv (.int x :: []) M Q)) ∧
  (∀ (d : Nat) (lv : List (Option Value)) (st : List Value) (M : jx_M) (Q : jx_Po) (x : Int32), jx_Ev d 57 9 lv (.int x :: st) M Q ↔ (if x = 0 then jx_Ev d 57 12 lv st M Q else jx_Ev d 57 14 lv st M Q)) ∧
  (∀ (d : Nat) (lv : List (Option Value)) (st : List Value) (M : jx_M) (Q : jx_Po), jx_Ev d 57 12 lv st M Q ↔ jx_Ev d 57 13 lv (.int (-1) :: st) M Q) ∧
  (∀ (d : Nat) (lv : List (Option Value)) (M : jx_M) (Q : jx_Po) (x : Int32), jx_Ev d 57 13 lv [.int x] M Q ↔ Q [.int x] M) ∧
  (∀ (d : Nat) (st : List Value) (M : jx_M) (Q : jx_Po) (l0 l2 l3 l4 l5 l6 : Option Value) (x : Int32), jx_Ev d 57 14 [l0, some (.int x), l2, l3, l4, l5, l6] st M Q ↔ jx_Ev d 57 15 [l0, some (.int x), l2, l3, l4, l5, l6] (.int x :: st) M Q) ∧
  (∀ (d : Nat) (lv : List (Option Value)) (M : jx_M) (Q : jx_Po) (a0 : Int32), jx_Ev (d + 1) 57 15 lv [.int a0] M Q ↔ jx_I d 82 [.int a0] M (fun x M => jx_Ev (d + 1) 57 18 lv (.int x :: []) M Q)) ∧
  (∀ (d : Nat) (lv : List (Option Value)) (st : List Value) (M : jx_M) (Q : jx_Po) (x : Int32), jx_Ev d 57 18 lv (.int x :: st) M Q ↔ (if x = 0 then jx_Ev d 57 40 lv st M Q else jx_Ev d 57 21 lv st M Q)) ∧
  (∀ (d : Nat) (st : List Value) (M : jx_M) (Q : jx_Po) (l0 l1 l2 l4 l5 l6 : Option Value) (x : Int32), jx_Ev d 57 21 [l0, l1, l2, some (.int x), l4, l5, l6] st M Q ↔ jx_Ev d 57 22 [l0, l1, l2, some (.int x), l4, l5, l6] (.int x :: st) M Q) ∧
  (∀ (d : Nat) (lv : List (Option Value)) (M : jx_M) (Q : jx_Po) (a0 : Int32), jx_Ev (d + 1) 57 22 lv [.int a0] M Q ↔ jx_I d 81 [.int a0] M (fun x M => jx_Ev (d + 1) 57 25 lv (.int x :: []) M Q)) ∧
  (∀ (d : Nat) (lv : List (Option Value)) (st : List Value) (M : jx_M) (Q : jx_Po) (x : Int32), jx_Ev d 57 25 lv (.int x :: st) M Q ↔ (if x = 0 then jx_Ev d 57 40 lv st M Q else jx_Ev d 57 28 lv st M Q)) ∧
  (∀ (d : Nat) (st : List Value) (M : jx_M) (Q : jx_Po) (l0 l1 l2 l3 l4 l6 : Option Value) (x : Int32), jx_Ev d 57 28 [l0, l1, l2, l3, l4, some (.int x), l6] st M Q ↔ jx_Ev d 57 30 [l0, l1, l2, l3, l4, some (.int x), l6] (.int x :: st) M Q) ∧
  (∀ (d : Nat) (lv : List (Option Value)) (st : List Value) (M : jx_M) (Q : jx_Po) (x : Int32), jx_Ev d 57 30 lv (.int x :: st) M Q ↔ (if x < 0 then jx_Ev d 57 40 lv st M Q else jx_Ev d 57 33 lv st M Q)) ∧
  (∀ (d : Nat) (st : List Value) (M : jx_M) (Q : jx_Po) (l0 l1 l2 l3 l4 l6 : Option Value) (x : Int32), jx_Ev d 57 33 [l0, l1, l2, l3, l4, some (.int x), l6] st M Q ↔ jx_Ev d 57 35 [l0, l1, l2, l3, l4, some (.int x), l6] (.int x :: st) M Q) ∧
  (∀ (d : Nat) (lv : List (Option Value)) (st : List Value) (M : jx_M) (Q : jx_Po), jx_Ev d 57 35 lv st M Q ↔ jx_Ev d 57 37 lv (.int 20 :: st) M Q) ∧
  (∀ (d : Nat) (lv : List (Option Value)) (st : List Value) (M : jx_M) (Q : jx_Po) (x z : Int32), jx_Ev d 57 37 lv (.int z :: .int x :: st) M Q ↔ (if x ≤ z then jx_Ev d 57 43 lv st M Q else jx_Ev d 57 40 lv st M Q)) ∧
  (∀ (d : Nat) (lv : List (Option Value)) (st : List Value) (M : jx_M) (Q : jx_Po), jx_Ev d 57 40 lv st M Q ↔ jx_Ev d 57 42 lv (.int (-2) :: st) M Q) ∧
  (∀ (d : Nat) (lv : List (Option Value)) (M : jx_M) (Q : jx_Po) (x : Int32), jx_Ev d 57 42 lv [.int x] M Q ↔ Q [.int x] M) ∧
  (∀ (d : Nat) (st : List Value) (M : jx_M) (Q : jx_Po) (l1 l2 l3 l4 l5 l6 : Option Value) (x : Nat), jx_Ev d 57 43 [some (.ref x), l1, l2, l3, l4, l5, l6] st M Q ↔ jx_Ev d 57 44 [some (.ref x), l1, l2, l3, l4, l5, l6] (.ref x :: st) M Q) ∧
  (∀ (d : Nat) (lv : List (Option Value)) (st : List Value) (M : jx_M) (Q : jx_Po), jx_Ev d 57 44 lv (.ref 0 :: st) M Q ↔ jx_Ev d 57 47 lv (.ref 1 :: st) M Q) ∧
  (∀ (d : Nat) (st : List Value) (M : jx_M) (Q : jx_Po) (l0 l1 l3 l4 l5 l6 : Option Value) (x : Int32), jx_Ev d 57 47 [l0, l1, some (.int x), l3, l4, l5, l6] st M Q ↔ jx_Ev d 57 48 [l0, l1, some (.int x), l3, l4, l5, l6] (.int x :: st) M Q) ∧
  (∀ (d : Nat) (lv : List (Option Value)) (st : List Value) (M : jx_M) (Q : jx_Po) (x : Int32), jx_Ev d 57 48 lv (.int x :: .ref 1 :: st) M Q ↔ (vp_in x 4 ∧ jx_Ev d 57 49 lv (.ref (jx_sp x) :: st) M Q)) ∧
  (∀ (d : Nat) (st : List Value) (M : jx_M) (Q : jx_Po) (l0 l1 l2 l4 l5 l6 : Option Value) (x : Int32), jx_Ev d 57 49 [l0, l1, l2, some (.int x), l4, l5, l6] st M Q ↔ jx_Ev d 57 50 [l0, l1, l2, some (.int x), l4, l5, l6] (.int x :: st) M Q) ∧
  (∀ (d : Nat) (st : List Value) (M : jx_M) (Q : jx_Po) (l0 l1 l2 l3 l5 l6 : Option Value) (x : Int32), jx_Ev d 57 50 [l0, l1, l2, l3, some (.int x), l5, l6] st M Q ↔ jx_Ev d 57 52 [l0, l1, l2, l3, some (.int x), l5, l6] (.int x :: st) M Q) ∧
  (∀ (d : Nat) (st : List Value) (M : jx_M) (Q : jx_Po) (l0 l1 l2 l3 l4 l6 : Option Value) (x : Int32), jx_Ev d 57 52 [l0, l1, l2, l3, l4, some (.int x), l6] st M Q ↔ jx_Ev d 57 54 [l0, l1, l2, l3, l4, some (.int x), l6] (.int x :: st) M Q) ∧
  (∀ (d : Nat) (lv : List (Option Value)) (M : jx_M) (Q : jx_Po) (a0 : Int32) (a1 : Int32) (a2 : Int32) (a3 : Nat) (hk : jx_cl a3 = 4), jx_Ev (d + 1) 57 54 lv [.int a0, .int a1, .int a2, .ref a3] M Q ↔ jx_I d 22 [.ref a3, .int a2, .int a1, .int a0] M (fun x M => jx_Ev (d + 1) 57 57 lv (.int x :: []) M Q)) ∧
  (∀ (d : Nat) (st : List Value) (M : jx_M) (Q : jx_Po) (l0 l1 l2 l3 l4 l5 l6 : Option Value) (x : Int32), jx_Ev d 57 57 [l0, l1, l2, l3, l4, l5, l6] (.int x :: st) M Q ↔ jx_Ev d 57 59 [l0, l1, l2, l3, l4, l5, some (.int x)] st M Q) ∧
  (∀ (d : Nat) (st : List Value) (M : jx_M) (Q : jx_Po) (l0 l1 l2 l3 l4 l5 : Option Value) (x : Int32), jx_Ev d 57 59 [l0, l1, l2, l3, l4, l5, some (.int x)] st M Q ↔ jx_Ev d 57 61 [l0, l1, l2, l3, l4, l5, some (.int x)] (.int x :: st) M Q) ∧
  (∀ (d : Nat) (lv : List (Option Value)) (st : List Value) (M : jx_M) (Q : jx_Po) (x : Int32), jx_Ev d 57 61 lv (.int x :: st) M Q ↔ (if x = 0 then jx_Ev d 57 71 lv st M Q else jx_Ev d 57 64 lv st M Q)) ∧
  (∀ (d : Nat) (st : List Value) (M : jx_M) (Q : jx_Po) (l1 l2 l3 l4 l5 l6 : Option Value) (x : Nat), jx_Ev d 57 64 [some (.ref x), l1, l2, l3, l4, l5, l6] st M Q ↔ jx_Ev d 57 65 [some (.ref x), l1, l2, l3, l4, l5, l6] (.ref x :: st) M Q) ∧
  (∀ (d : Nat) (st : List Value) (M : jx_M) (Q : jx_Po) (l0 l1 l2 l3 l4 l5 : Option Value) (x : Int32), jx_Ev d 57 65 [l0, l1, l2, l3, l4, l5, some (.int x)] st M Q ↔ jx_Ev d 57 67 [l0, l1, l2, l3, l4, l5, some (.int x)] (.int x :: st) M Q) ∧
  (∀ (d : Nat) (lv : List (Option Value)) (M : jx_M) (Q : jx_Po) (a0 : Int32), jx_Ev (d + 1) 57 67 lv [.int a0, .ref 0] M Q ↔ jx_I d 83 [.ref 0, .int a0] M (fun x M => jx_Ev (d + 1) 57 70 lv (.int x :: []) M Q)) ∧
  (∀ (d : Nat) (lv : List (Option Value)) (M : jx_M) (Q : jx_Po) (x : Int32), jx_Ev d 57 70 lv [.int x] M Q ↔ Q [.int x] M) ∧
  (∀ (d : Nat) (st : List Value) (M : jx_M) (Q : jx_Po) (l1 l2 l3 l4 l5 l6 : Option Value) (x : Nat), jx_Ev d 57 71 [some (.ref x), l1, l2, l3, l4, l5, l6] st M Q ↔ jx_Ev d 57 72 [some (.ref x), l1, l2, l3, l4, l5, l6] (.ref x :: st) M Q) ∧
  (∀ (d : Nat) (lv : List (Option Value)) (st : List Value) (M : jx_M) (Q : jx_Po), jx_Ev d 57 72 lv (.ref 0 :: st) M Q ↔ jx_Ev d 57 75 lv (.ref 13 :: st) M Q) ∧
  (∀ (d : Nat) (st : List Value) (M : jx_M) (Q : jx_Po) (l1 l2 l3 l4 l5 l6 : Option Value) (x : Nat), jx_Ev d 57 75 [some (.ref x), l1, l2, l3, l4, l5, l6] st M Q ↔ jx_Ev d 57 76 [some (.ref x), l1, l2, l3, l4, l5, l6] (.ref x :: st) M Q) ∧
  (∀ (d : Nat) (lv : List (Option Value)) (st : List Value) (M : jx_M) (Q : jx_Po), jx_Ev d 57 76 lv (.ref 0 :: st) M Q ↔ jx_Ev d 57 79 lv (jx_rv (M 0 6) :: st) M Q) ∧
  (∀ (d : Nat) (st : List Value) (M : jx_M) (Q : jx_Po) (l0 l2 l3 l4 l5 l6 : Option Value) (x : Int32), jx_Ev d 57 79 [l0, some (.int x), l2, l3, l4, l5, l6] st M Q ↔ jx_Ev d 57 80 [l0, some (.int x), l2, l3, l4, l5, l6] (.int x :: st) M Q) ∧
  (∀ (d : Nat) (lv : List (Option Value)) (M : jx_M) (Q : jx_Po) (a0 : Int32) (a1 : Nat), jx_Ev (d + 1) 57 80 lv [.int a0, .ref a1, .ref 13] M Q ↔ jx_V d 25 [.ref 13, .ref a1, .int a0] M (fun M => jx_Ev (d + 1) 57 83 lv [] M Q)) ∧
  (∀ (d : Nat) (st : List Value) (M : jx_M) (Q : jx_Po) (l1 l2 l3 l4 l5 l6 : Option Value) (x : Nat), jx_Ev d 57 83 [some (.ref x), l1, l2, l3, l4, l5, l6] st M Q ↔ jx_Ev d 57 84 [some (.ref x), l1, l2, l3, l4, l5, l6] (.ref x :: st) M Q) ∧
  (∀ (d : Nat) (lv : List (Option Value)) (st : List Value) (M : jx_M) (Q : jx_Po), jx_Ev d 57 84 lv (.ref 0 :: st) M Q ↔ jx_Ev d 57 87 lv (.ref 13 :: st) M Q) ∧
  (∀ (d : Nat) (st : List Value) (M : jx_M) (Q : jx_Po) (l1 l2 l3 l4 l5 l6 : Option Value) (x : Nat), jx_Ev d 57 87 [some (.ref x), l1, l2, l3, l4, l5, l6] st M Q ↔ jx_Ev d 57 88 [some (.ref x), l1, l2, l3, l4, l5, l6] (.ref x :: st) M Q) ∧
  (∀ (d : Nat) (lv : List (Option Value)) (st : List Value) (M : jx_M) (Q : jx_Po), jx_Ev d 57 88 lv (.ref 0 :: st) M Q ↔ jx_Ev d 57 91 lv (.ref 1 :: st) M Q) ∧
  (∀ (d : Nat) (st : List Value) (M : jx_M) (Q : jx_Po) (l0 l1 l3 l4 l5 l6 : Option Value) (x : Int32), jx_Ev d 57 91 [l0, l1, some (.int x), l3, l4, l5, l6] st M Q ↔ jx_Ev d 57 92 [l0, l1, some (.int x), l3, l4, l5, l6] (.int x :: st) M Q) ∧
  (∀ (d : Nat) (lv : List (Option Value)) (st : List Value) (M : jx_M) (Q : jx_Po) (x : Int32), jx_Ev d 57 92 lv (.int x :: .ref 1 :: st) M Q ↔ (vp_in x 4 ∧ jx_Ev d 57 93 lv (.ref (jx_sp x) :: st) M Q)) ∧
  (∀ (d : Nat) (st : List Value) (M : jx_M) (Q : jx_Po) (l0 l1 l2 l3 l5 l6 : Option Value) (x : Int32), jx_Ev d 57 93 [l0, l1, l2, l3, some (.int x), l5, l6] st M Q ↔ jx_Ev d 57 95 [l0, l1, l2, l3, some (.int x), l5, l6] (.int x :: st) M Q) ∧
  (∀ (d : Nat) (st : List Value) (M : jx_M) (Q : jx_Po) (l0 l1 l2 l3 l4 l6 : Option Value) (x : Int32), jx_Ev d 57 95 [l0, l1, l2, l3, l4, some (.int x), l6] st M Q ↔ jx_Ev d 57 97 [l0, l1, l2, l3, l4, some (.int x), l6] (.int x :: st) M Q) ∧
  (∀ (d : Nat) (lv : List (Option Value)) (M : jx_M) (Q : jx_Po) (a0 : Int32) (a1 : Int32) (a2 : Nat), jx_Ev (d + 1) 57 97 lv [.int a0, .int a1, .ref a2, .ref 13] M Q ↔ jx_I d 26 [.ref 13, .ref a2, .int a1, .int a0] M (fun x M => jx_Ev (d + 1) 57 100 lv (.int x :: []) M Q)) ∧
  (∀ (d : Nat) (lv : List (Option Value)) (st : List Value) (M : jx_M) (Q : jx_Po) (x : Int32), jx_Ev d 57 100 lv (.int x :: st) M Q ↔ (if x = 0 then jx_Ev d 57 115 lv st M Q else jx_Ev d 57 103 lv st M Q)) ∧
  (∀ (d : Nat) (st : List Value) (M : jx_M) (Q : jx_Po) (l1 l2 l3 l4 l5 l6 : Option Value) (x : Nat), jx_Ev d 57 103 [some (.ref x), l1, l2, l3, l4, l5, l6] st M Q ↔ jx_Ev d 57 104 [some (.ref x), l1, l2, l3, l4, l5, l6] (.ref x :: st) M Q) ∧
  (∀ (d : Nat) (lv : List (Option Value)) (st : List Value) (M : jx_M) (Q : jx_Po), jx_Ev d 57 104 lv (.ref 0 :: st) M Q ↔ jx_Ev d 57 107 lv (.ref 13 :: st) M Q) ∧
  (∀ (d : Nat) (st : List Value) (M : jx_M) (Q : jx_Po) (l0 l1 l2 l3 l4 l6 : Option Value) (x : Int32), jx_Ev d 57 107 [l0, l1, l2, l3, l4, some (.int x), l6] st M Q ↔ jx_Ev d 57 109 [l0, l1, l2, l3, l4, some (.int x), l6] (.int x :: st) M Q) ∧
  (∀ (d : Nat) (lv : List (Option Value)) (M : jx_M) (Q : jx_Po) (a0 : Int32), jx_Ev (d + 1) 57 109 lv [.int a0, .ref 13] M Q ↔ jx_I d 28 [.ref 13, .int a0] M (fun x M => jx_Ev (d + 1) 57 112 lv (.int x :: []) M Q)) ∧
  (∀ (d : Nat) (lv : List (Option Value)) (st : List Value) (M : jx_M) (Q : jx_Po), jx_Ev d 57 112 lv st M Q ↔ jx_Ev d 57 116 lv st M Q) ∧
  (∀ (d : Nat) (lv : List (Option Value)) (st : List Value) (M : jx_M) (Q : jx_Po), jx_Ev d 57 115 lv st M Q ↔ jx_Ev d 57 116 lv (.int (-1) :: st) M Q) ∧
  (∀ (d : Nat) (lv : List (Option Value)) (M : jx_M) (Q : jx_Po) (x : Int32), jx_Ev d 57 116 lv [.int x] M Q ↔ Q [.int x] M) := by
  refine ⟨?_, ?_, ?_, ?_, ?_, ?_, ?_, ?_, ?_, ?_, ?_, ?_, ?_, ?_, ?_, ?_, ?_, ?_, ?_, ?_, ?_, ?_, ?_, ?_, ?_, ?_, ?_, ?_, ?_, ?_, ?_, ?_, ?_, ?_, ?_, ?_, ?_, ?_, ?_, ?_, ?_, ?_, ?_, ?_, ?_, ?_, ?_, ?_, ?_, ?_, ?_, ?_, ?_, ?_, ?_, ?_, ?_, ?_, ?_⟩
  · exact fun d st M Q l1 l2 l3 l4 l5 l6 x => jx_ev_st (jx_fok (by decide +kernel : decode (jx_mb 57) 0 = .ok (.aload_n 0, 1))) rfl rfl rfl
  · exact fun d lv st M Q => jx_ev_st (jx_fok (by decide +kernel : decode (jx_mb 57) 1 = .ok (.iconst 0, 1))) rfl rfl rfl
  · exact fun d lv st M Q x => jx_k_pf0 (jx_fok (by decide +kernel : decode (jx_mb 57) 2 = .ok (.putfield 66, 3))) rfl rfl rfl
  · exact fun d st M Q l0 l1 l3 l4 l5 l6 x => jx_ev_st (jx_fok (by decide +kernel : decode (jx_mb 57) 5 = .ok (.iload_n 2, 1))) rfl rfl rfl
  · exact fun d lv M Q a0 => jx_ev_ci (jx_fok (by decide +kernel : decode (jx_mb 57) 6 = .ok (.invokestatic 70, 3))) rfl (jx_ccS (As := [.int a0]) (rest := []) rfl rfl rfl rfl rfl) (by decide)
  · exact fun d lv st M Q x => jx_k_b1n (jx_fok (by decide +kernel : decode (jx_mb 57) 9 = .ok (.ifCond .ne 5, 3))) rfl jx_hNe
  · exact fun d lv st M Q => jx_ev_st (jx_fok (by decide +kernel : decode (jx_mb 57) 12 = .ok (.iconst (-1), 1))) rfl rfl rfl
  · exact fun d lv M Q x => jx_k_ri (jx_fok (by decide +kernel : decode (jx_mb 57) 13 = .ok (.ireturn, 1))) rfl
  · exact fun d st M Q l0 l2 l3 l4 l5 l6 x => jx_ev_st (jx_fok (by decide +kernel : decode (jx_mb 57) 14 = .ok (.iload_n 1, 1))) rfl rfl rfl
  · exact fun d lv M Q a0 => jx_ev_ci (jx_fok (by decide +kernel : decode (jx_mb 57) 15 = .ok (.invokestatic 130, 3))) rfl (jx_ccS (As := [.int a0]) (rest := []) rfl rfl rfl rfl rfl) (by decide)
  · exact fun d lv st M Q x => jx_k_b1 (jx_fok (by decide +kernel : decode (jx_mb 57) 18 = .ok (.ifCond .eq 22, 3))) rfl jx_hEq
  · exact fun d st M Q l0 l1 l2 l4 l5 l6 x => jx_ev_st (jx_fok (by decide +kernel : decode (jx_mb 57) 21 = .ok (.iload_n 3, 1))) rfl rfl rfl
  · exact fun d lv M Q a0 => jx_ev_ci (jx_fok (by decide +kernel : decode (jx_mb 57) 22 = .ok (.invokestatic 74, 3))) rfl (jx_ccS (As := [.int a0]) (rest := []) rfl rfl rfl rfl rfl) (by decide)
  · exact fun d lv st M Q x => jx_k_b1 (jx_fok (by decide +kernel : decode (jx_mb 57) 25 = .ok (.ifCond .eq 15, 3))) rfl jx_hEq
  · exact fun d st M Q l0 l1 l2 l3 l4 l6 x => jx_ev_st (jx_fok (by decide +kernel : decode (jx_mb 57) 28 = .ok (.iload 5, 2))) rfl rfl rfl
  · exact fun d lv st M Q x => jx_k_b1 (jx_fok (by decide +kernel : decode (jx_mb 57) 30 = .ok (.ifCond .lt 10, 3))) rfl jx_hLt
  · exact fun d st M Q l0 l1 l2 l3 l4 l6 x => jx_ev_st (jx_fok (by decide +kernel : decode (jx_mb 57) 33 = .ok (.iload 5, 2))) rfl rfl rfl
  · exact fun d lv st M Q => jx_ev_st (jx_fok (by decide +kernel : decode (jx_mb 57) 35 = .ok (.bipush 20, 2))) rfl rfl rfl
  · exact fun d lv st M Q x z => jx_k_b2 (jx_fok (by decide +kernel : decode (jx_mb 57) 37 = .ok (.if_icmp .le 6, 3))) rfl jx_hLe
  · exact fun d lv st M Q => jx_ev_st (jx_fok (by decide +kernel : decode (jx_mb 57) 40 = .ok (.bipush (-2), 2))) rfl rfl rfl
  · exact fun d lv M Q x => jx_k_ri (jx_fok (by decide +kernel : decode (jx_mb 57) 42 = .ok (.ireturn, 1))) rfl
  · exact fun d st M Q l1 l2 l3 l4 l5 l6 x => jx_ev_st (jx_fok (by decide +kernel : decode (jx_mb 57) 43 = .ok (.aload_n 0, 1))) rfl rfl rfl
  · exact fun d lv st M Q => jx_k_gf (jx_fok (by decide +kernel : decode (jx_mb 57) 44 = .ok (.getfield 13, 3))) rfl rfl rfl
  · exact fun d st M Q l0 l1 l3 l4 l5 l6 x => jx_ev_st (jx_fok (by decide +kernel : decode (jx_mb 57) 47 = .ok (.iload_n 2, 1))) rfl rfl rfl
  · exact fun d lv st M Q x => jx_k_aa (jx_fok (by decide +kernel : decode (jx_mb 57) 48 = .ok (.aaload, 1)))
  · exact fun d st M Q l0 l1 l2 l4 l5 l6 x => jx_ev_st (jx_fok (by decide +kernel : decode (jx_mb 57) 49 = .ok (.iload_n 3, 1))) rfl rfl rfl
  · exact fun d st M Q l0 l1 l2 l3 l5 l6 x => jx_ev_st (jx_fok (by decide +kernel : decode (jx_mb 57) 50 = .ok (.iload 4, 2))) rfl rfl rfl
  · exact fun d st M Q l0 l1 l2 l3 l4 l6 x => jx_ev_st (jx_fok (by decide +kernel : decode (jx_mb 57) 52 = .ok (.iload 5, 2))) rfl rfl rfl
  · exact fun d lv M Q a0 a1 a2 a3 hk => jx_ev_ci (jx_fok (by decide +kernel : decode (jx_mb 57) 54 = .ok (.invokevirtual 77, 3))) rfl (jx_ccV (As := [.int a2, .int a1, .int a0]) (rest := []) rfl rfl rfl hk rfl rfl) (by decide)
  · exact fun d st M Q l0 l1 l2 l3 l4 l5 l6 x => jx_ev_st (jx_fok (by decide +kernel : decode (jx_mb 57) 57 = .ok (.istore 6, 2))) rfl rfl rfl
  · exact fun d st M Q l0 l1 l2 l3 l4 l5 x => jx_ev_st (jx_fok (by decide +kernel : decode (jx_mb 57) 59 = .ok (.iload 6, 2))) rfl rfl rfl
  · exact fun d lv st M Q x => jx_k_b1 (jx_fok (by decide +kernel : decode (jx_mb 57) 61 = .ok (.ifCond .eq 10, 3))) rfl jx_hEq
  · exact fun d st M Q l1 l2 l3 l4 l5 l6 x => jx_ev_st (jx_fok (by decide +kernel : decode (jx_mb 57) 64 = .ok (.aload_n 0, 1))) rfl rfl rfl
  · exact fun d st M Q l0 l1 l2 l3 l4 l5 x => jx_ev_st (jx_fok (by decide +kernel : decode (jx_mb 57) 65 = .ok (.iload 6, 2))) rfl rfl rfl
  · exact fun d lv M Q a0 => jx_ev_ci (jx_fok (by decide +kernel : decode (jx_mb 57) 67 = .ok (.invokevirtual 81, 3))) rfl (jx_ccV (As := [.int a0]) (rest := []) rfl rfl rfl rfl rfl rfl) (by decide)
  · exact fun d lv M Q x => jx_k_ri (jx_fok (by decide +kernel : decode (jx_mb 57) 70 = .ok (.ireturn, 1))) rfl
  · exact fun d st M Q l1 l2 l3 l4 l5 l6 x => jx_ev_st (jx_fok (by decide +kernel : decode (jx_mb 57) 71 = .ok (.aload_n 0, 1))) rfl rfl rfl
  · exact fun d lv st M Q => jx_k_gf (jx_fok (by decide +kernel : decode (jx_mb 57) 72 = .ok (.getfield 48, 3))) rfl rfl rfl
  · exact fun d st M Q l1 l2 l3 l4 l5 l6 x => jx_ev_st (jx_fok (by decide +kernel : decode (jx_mb 57) 75 = .ok (.aload_n 0, 1))) rfl rfl rfl
  · exact fun d lv st M Q => jx_k_gf (jx_fok (by decide +kernel : decode (jx_mb 57) 76 = .ok (.getfield 55, 3))) rfl rfl rfl
  · exact fun d st M Q l0 l2 l3 l4 l5 l6 x => jx_ev_st (jx_fok (by decide +kernel : decode (jx_mb 57) 79 = .ok (.iload_n 1, 1))) rfl rfl rfl
  · exact fun d lv M Q a0 a1 => jx_ev_cv (jx_fok (by decide +kernel : decode (jx_mb 57) 80 = .ok (.invokevirtual 182, 3))) rfl (jx_ccV (As := [.ref a1, .int a0]) (rest := []) rfl rfl rfl rfl rfl rfl) rfl
  · exact fun d st M Q l1 l2 l3 l4 l5 l6 x => jx_ev_st (jx_fok (by decide +kernel : decode (jx_mb 57) 83 = .ok (.aload_n 0, 1))) rfl rfl rfl
  · exact fun d lv st M Q => jx_k_gf (jx_fok (by decide +kernel : decode (jx_mb 57) 84 = .ok (.getfield 48, 3))) rfl rfl rfl
  · exact fun d st M Q l1 l2 l3 l4 l5 l6 x => jx_ev_st (jx_fok (by decide +kernel : decode (jx_mb 57) 87 = .ok (.aload_n 0, 1))) rfl rfl rfl
  · exact fun d lv st M Q => jx_k_gf (jx_fok (by decide +kernel : decode (jx_mb 57) 88 = .ok (.getfield 13, 3))) rfl rfl rfl
  · exact fun d st M Q l0 l1 l3 l4 l5 l6 x => jx_ev_st (jx_fok (by decide +kernel : decode (jx_mb 57) 91 = .ok (.iload_n 2, 1))) rfl rfl rfl
  · exact fun d lv st M Q x => jx_k_aa (jx_fok (by decide +kernel : decode (jx_mb 57) 92 = .ok (.aaload, 1)))
  · exact fun d st M Q l0 l1 l2 l3 l5 l6 x => jx_ev_st (jx_fok (by decide +kernel : decode (jx_mb 57) 93 = .ok (.iload 4, 2))) rfl rfl rfl
  · exact fun d st M Q l0 l1 l2 l3 l4 l6 x => jx_ev_st (jx_fok (by decide +kernel : decode (jx_mb 57) 95 = .ok (.iload 5, 2))) rfl rfl rfl
  · exact fun d lv M Q a0 a1 a2 => jx_ev_ci (jx_fok (by decide +kernel : decode (jx_mb 57) 97 = .ok (.invokevirtual 185, 3))) rfl (jx_ccV (As := [.ref a2, .int a1, .int a0]) (rest := []) rfl rfl rfl rfl rfl rfl) (by decide)
  · exact fun d lv st M Q x => jx_k_b1 (jx_fok (by decide +kernel : decode (jx_mb 57) 100 = .ok (.ifCond .eq 15, 3))) rfl jx_hEq
  · exact fun d st M Q l1 l2 l3 l4 l5 l6 x => jx_ev_st (jx_fok (by decide +kernel : decode (jx_mb 57) 103 = .ok (.aload_n 0, 1))) rfl rfl rfl
  · exact fun d lv st M Q => jx_k_gf (jx_fok (by decide +kernel : decode (jx_mb 57) 104 = .ok (.getfield 48, 3))) rfl rfl rfl
  · exact fun d st M Q l0 l1 l2 l3 l4 l6 x => jx_ev_st (jx_fok (by decide +kernel : decode (jx_mb 57) 107 = .ok (.iload 5, 2))) rfl rfl rfl
  · exact fun d lv M Q a0 => jx_ev_ci (jx_fok (by decide +kernel : decode (jx_mb 57) 109 = .ok (.invokevirtual 188, 3))) rfl (jx_ccV (As := [.int a0]) (rest := []) rfl rfl rfl rfl rfl rfl) (by decide)
  · exact fun d lv st M Q => jx_k_goto (jx_fok (by decide +kernel : decode (jx_mb 57) 112 = .ok (.goto 4, 3))) rfl
  · exact fun d lv st M Q => jx_ev_st (jx_fok (by decide +kernel : decode (jx_mb 57) 115 = .ok (.iconst (-1), 1))) rfl rfl rfl
  · exact fun d lv M Q x => jx_k_ri (jx_fok (by decide +kernel : decode (jx_mb 57) 116 = .ok (.ireturn, 1))) rfl
theorem kX7_shelf (d : Nat) (M : jx_M) (q : Int32 → jx_M → Prop) (a0 a1 a2 a3 a4 a5 : Value) : jx_I d 57 [a0, a1, a2, a3, a4, a5] M q ↔ jx_Ev d 57 0 [some a0, some a1, some a2, some a3, some a4, some a5, none] [] M (jx_qI q) := Iff.rfl
set_option maxRecDepth 100000 in
theorem eX7_order :
  (∀ (d : Nat) (st : List Value) (M : jx_M) (Q : jx_Po) (l0 l2 : Option Value) (x : Int32), jx_Ev d 58 0 [l0, some (.int x), l2] st M Q ↔ jx_Ev d 58 1 [l0, some (.int x), l2] (.int x :: st) M Q) ∧
  (∀ (d : Nat) (lv : List (Option Value)) (M : jx_M) (Q : jx_Po) (a0 : Int32), jx_Ev (d + 1) 58 1 lv [.int a0] M Q ↔ jx_I d 82 [.int a0] M (fun x M => jx_Ev (d + 1) 58 4 lv (.int x :: []) M Q)) ∧
  (∀ (d : Nat) (lv : List (Option Value)) (st : List Value) (M : jx_M) (Q : jx_Po) (x : Int32), jx_Ev d 58 4 lv (.int x :: st) M Q ↔ (if x = 0 then jx_Ev d 58 17 lv st M Q else jx_Ev d 58 7 lv st M Q)) ∧
  (∀ (d : Nat) (st : List Value) (M : jx_M) (Q : jx_Po) (l0 l1 : Option Value) (x : Int32), jx_Ev d 58 7 [l0, l1, some (.int x)] st M Q ↔ jx_Ev d 58 8 [l0, l1, some (.int x)] (.int x :: st) M Q) ∧
  (∀ (d : Nat) (lv : List (Option Value)) (st : List Value) (M : jx_M) (Q : jx_Po) (x : Int32), jx_Ev d 58 8 lv (.int x :: st) M Q ↔ (if x < 0 then jx_Ev d 58 17 lv st M Q else jx_Ev d 58 11 lv st M Q)) ∧
  (∀ (d : Nat) (st : List Value) (M : jx_M) (Q : jx_Po) (l0 l1 : Option Value) (x : Int32), jx_Ev d 58 11 [l0, l1, some (.int x)] st M Q ↔ jx_Ev d 58 12 [l0, l1, some (.int x)] (.int x :: st) M Q) ∧
  (∀ (d : Nat) (lv : List (Option Value)) (st : List Value) (M : jx_M) (Q : jx_Po), jx_Ev d 58 12 lv st M Q ↔ jx_Ev d 58 14 lv (.int 6 :: st) M Q) ∧
  (∀ (d : Nat) (lv : List (Option Value)) (st : List Value) (M : jx_M) (Q : jx_Po) (x z : Int32), jx_Ev d 58 14 lv (.int z :: .int x :: st) M Q ↔ (if x < z then jx_Ev d 58 20 lv st M Q else jx_Ev d 58 17 lv st M Q)) ∧
  (∀ (d : Nat) (lv : List (Option Value)) (st : List Value) (M : jx_M) (Q : jx_Po), jx_Ev d 58 17 lv st M Q ↔ jx_Ev d 58 19 lv (.int (-2) :: st) M Q) ∧
  (∀ (d : Nat) (lv : List (Option Value)) (M : jx_M) (Q : jx_Po) (x : Int32), jx_Ev d 58 19 lv [.int x] M Q ↔ Q [.int x] M) ∧
  (∀ (d : Nat) (st : List Value) (M : jx_M) (Q : jx_Po) (l1 l2 : Option Value) (x : Nat), jx_Ev d 58 20 [some (.ref x), l1, l2] st M Q ↔ jx_Ev d 58 21 [some (.ref x), l1, l2] (.ref x :: st) M Q) ∧
  (∀ (d : Nat) (lv : List (Option Value)) (st : List Value) (M : jx_M) (Q : jx_Po), jx_Ev d 58 21 lv (.ref 0 :: st) M Q ↔ jx_Ev d 58 24 lv (jx_rv (M 0 6) :: st) M Q) ∧
  (∀ (d : Nat) (lv : List (Option Value)) (M : jx_M) (Q : jx_Po) (a0 : Nat) (hk : jx_cl a0 = 1), jx_Ev (d + 1) 58 24 lv [.ref a0] M Q ↔ jx_I d 4 [.ref a0] M (fun x M => jx_Ev (d + 1) 58 27 lv (.int x :: []) M Q)) ∧
  (∀ (d : Nat) (lv : List (Option Value)) (st : List Value) (M : jx_M) (Q : jx_Po) (x : Int32), jx_Ev d 58 27 lv (.int x :: st) M Q ↔ (if x = 0 then jx_Ev d 58 30 lv st M Q else jx_Ev d 58 33 lv st M Q)) ∧
  (∀ (d : Nat) (lv : List (Option Value)) (st : List Value) (M : jx_M) (Q : jx_Po), jx_Ev d 58 30 lv st M Q ↔ jx_Ev d 58 32 lv (.int (-3) :: st) M Q) ∧
  (∀ (d : Nat) (lv : List (Option Value)) (M : jx_M) (Q : jx_Po) (x : Int32), jx_Ev d 58 32 lv [.int x] M Q ↔ Q [.int x] M) ∧
  (∀ (d : Nat) (st : List Value) (M : jx_M) (Q : jx_Po) (l0 l1 : Option Value) (x : Int32), jx_Ev d 58 33 [l0, l1, some (.int x)] st M Q ↔ jx_Ev d 58 34 [l0, l1, some (.int x)] (.int x :: st) M Q) ∧
  (∀ (d : Nat) (st : List Value) (M : jx_M) (Q : jx_Po) (l1 l2 : Option Value) (x : Nat), jx_Ev d 58 34 [some (.ref x), l1, l2] st M Q ↔ jx_Ev d 58 35 [some (.ref x), l1, l2] (.ref x :: st) M Q) ∧
  (∀ (d : Nat) (lv : List (Option Value)) (st : List Value) (M : jx_M) (Q : jx_Po), jx_Ev d 58 35 lv (.ref 0 :: st) M Q ↔ jx_Ev d 58 38 lv (jx_rv (M 0 6) :: st) M Q) ∧
  (∀ (d : Nat) (lv : List (Option Value)) (st : List Value) (M : jx_M) (Q : jx_Po) (k : Nat) (hk : jx_cl k = 1), jx_Ev d 58 38 lv (.ref k :: st) M Q ↔ jx_Ev d 58 41 lv (.int (M k 6) :: st) M Q) ∧
  (∀ (d : Nat) (lv : List (Option Value)) (st : List Value) (M : jx_M) (Q : jx_Po) (x z : Int32), jx_Ev d 58 41 lv (.int z :: .int x :: st) M Q ↔ (if x < z then jx_Ev d 58 47 lv st M Q else jx_Ev d 58 44 lv st M Q)) ∧
  (∀ (d : Nat) (lv : List (Option Value)) (st : List Value) (M : jx_M) (Q : jx_Po), jx_Ev d 58 44 lv st M Q ↔ jx_Ev d 58 46 lv (.int (-9) :: st) M Q) ∧
  (∀ (d : Nat) (lv : List (Option Value)) (M : jx_M) (Q : jx_Po) (x : Int32), jx_Ev d 58 46 lv [.int x] M Q ↔ Q [.int x] M) ∧
  (∀ (d : Nat) (st : List Value) (M : jx_M) (Q : jx_Po) (l1 l2 : Option Value) (x : Nat), jx_Ev d 58 47 [some (.ref x), l1, l2] st M Q ↔ jx_Ev d 58 48 [some (.ref x), l1, l2] (.ref x :: st) M Q) ∧
  (∀ (d : Nat) (lv : List (Option Value)) (st : List Value) (M : jx_M) (Q : jx_Po), jx_Ev d 58 48 lv (.ref 0 :: st) M Q ↔ jx_Ev d 58 51 lv (.ref 13 :: st) M Q) ∧
  (∀ (d : Nat) (st : List Value) (M : jx_M) (Q : jx_Po) (l1 l2 : Option Value) (x : Nat), jx_Ev d 58 51 [some (.ref x), l1, l2] st M Q ↔ jx_Ev d 58 52 [some (.ref x), l1, l2] (.ref x :: st) M Q) ∧
  (∀ (d : Nat) (lv : List (Option Value)) (st : List Value) (M : jx_M) (Q : jx_Po), jx_Ev d 58 52 lv (.ref 0 :: st) M Q ↔ jx_Ev d 58 55 lv (jx_rv (M 0 6) :: st) M Q) ∧
  (∀ (d : Nat) (st : List Value) (M : jx_M) (Q : jx_Po) (l0 l2 : Option Value) (x : Int32), jx_Ev d 58 55 [l0, some (.int x), l2] st M Q ↔ jx_Ev d 58 56 [l0, some (.int x), l2] (.int x :: st) M Q) ∧
  (∀ (d : Nat) (lv : List (Option Value)) (M : jx_M) (Q : jx_Po) (a0 : Int32) (a1 : Nat), jx_Ev (d + 1) 58 56 lv [.int a0, .ref a1, .ref 13] M Q ↔ jx_V d 25 [.ref 13, .ref a1, .int a0] M (fun M => jx_Ev (d + 1) 58 59 lv [] M Q)) ∧
  (∀ (d : Nat) (st : List Value) (M : jx_M) (Q : jx_Po) (l1 l2 : Option Value) (x : Nat), jx_Ev d 58 59 [some (.ref x), l1, l2] st M Q ↔ jx_Ev d 58 60 [some (.ref x), l1, l2] (.ref x :: st) M Q) ∧
  (∀ (d : Nat) (lv : List (Option Value)) (st : List Value) (M : jx_M) (Q : jx_Po), jx_Ev d 58 60 lv (.ref 0 :: st) M Q ↔ jx_Ev d 58 63 lv (.ref 13 :: st) M Q) ∧
  (∀ (d : Nat) (lv : List (Option Value)) (M : jx_M) (Q : jx_Po), jx_Ev (d + 1) 58 63 lv [.ref 13] M Q ↔ jx_I d 30 [.ref 13] M (fun x M => jx_Ev (d + 1) 58 66 lv (.int x :: []) M Q)) ∧
  (∀ (d : Nat) (lv : List (Option Value)) (st : List Value) (M : jx_M) (Q : jx_Po) (x : Int32), jx_Ev d 58 66 lv (.int x :: st) M Q ↔ (if x = 0 then jx_Ev d 58 81 lv st M Q else jx_Ev d 58 69 lv st M Q)) ∧
  (∀ (d : Nat) (st : List Value) (M : jx_M) (Q : jx_Po) (l1 l2 : Option Value) (x : Nat), jx_Ev d 58 69 [some (.ref x), l1, l2] st M Q ↔ jx_Ev d 58 70 [some (.ref x), l1, l2] (.ref x :: st) M Q) ∧
  (∀ (d : Nat) (lv : List (Option Value)) (st : List Value) (M : jx_M) (Q : jx_Po), jx_Ev d 58 70 lv (.ref 0 :: st) M Q ↔ jx_Ev d 58 73 lv (.ref 13 :: st) M Q) ∧
  (∀ (d : Nat) (lv : List (Option Value)) (st : List Value) (M : jx_M) (Q : jx_Po), jx_Ev d 58 73 lv (.ref 13 :: st) M Q ↔ jx_Ev d 58 76 lv (.ref 14 :: st) M Q) ∧
  (∀ (d : Nat) (st : List Value) (M : jx_M) (Q : jx_Po) (l0 l1 : Option Value) (x : Int32), jx_Ev d 58 76 [l0, l1, some (.int x)] st M Q ↔ jx_Ev d 58 77 [l0, l1, some (.int x)] (.int x :: st) M Q) ∧
  (∀ (d : Nat) (lv : List (Option Value)) (st : List Value) (M : jx_M) (Q : jx_Po) (x : Int32) (a : Nat) (ha : jx_cl a = 9), jx_Ev d 58 77 lv (.int x :: .ref a :: st) M Q ↔ (vp_in x (jx_sz a) ∧ jx_Ev d 58 78 lv (.int (M a x.toNatClampNeg) :: st) M Q)) ∧
  (∀ (d : Nat) (lv : List (Option Value)) (st : List Value) (M : jx_M) (Q : jx_Po), jx_Ev d 58 78 lv st M Q ↔ jx_Ev d 58 83 lv st M Q) ∧
  (∀ (d : Nat) (lv : List (Option Value)) (st : List Value) (M : jx_M) (Q : jx_Po), jx_Ev d 58 81 lv st M Q ↔ jx_Ev d 58 83 lv (.int (-9) :: st) M Q) ∧
  (∀ (d : Nat) (lv : List (Option Value)) (M : jx_M) (Q : jx_Po) (x : Int32), jx_Ev d 58 83 lv [.int x] M Q ↔ Q [.int x] M) := by
  refine ⟨?_, ?_, ?_, ?_, ?_, ?_, ?_, ?_, ?_, ?_, ?_, ?_, ?_, ?_, ?_, ?_, ?_, ?_, ?_, ?_, ?_, ?_, ?_, ?_, ?_, ?_, ?_, ?_, ?_, ?_, ?_, ?_, ?_, ?_, ?_, ?_, ?_, ?_, ?_, ?_, ?_⟩
  · exact fun d st M Q l0 l2 x => jx_ev_st (jx_fok (by decide +kernel : decode (jx_mb 58) 0 = .ok (.iload_n 1, 1))) rfl rfl rfl
  · exact fun d lv M Q a0 => jx_ev_ci (jx_fok (by decide +kernel : decode (jx_mb 58) 1 = .ok (.invokestatic 130, 3))) rfl (jx_ccS (As := [.int a0]) (rest := []) rfl rfl rfl rfl rfl) (by decide)
  · exact fun d lv st M Q x => jx_k_b1 (jx_fok (by decide +kernel : decode (jx_mb 58) 4 = .ok (.ifCond .eq 13, 3))) rfl jx_hEq
  · exact fun d st M Q l0 l1 x => jx_ev_st (jx_fok (by decide +kernel : decode (jx_mb 58) 7 = .ok (.iload_n 2, 1))) rfl rfl rfl
  · exact fun d lv st M Q x => jx_k_b1 (jx_fok (by decide +kernel : decode (jx_mb 58) 8 = .ok (.ifCond .lt 9, 3))) rfl jx_hLt
  · exact fun d st M Q l0 l1 x => jx_ev_st (jx_fok (by decide +kernel : decode (jx_mb 58) 11 = .ok (.iload_n 2, 1))) rfl rfl rfl
  · exact fun d lv st M Q => jx_ev_st (jx_fok (by decide +kernel : decode (jx_mb 58) 12 = .ok (.bipush 6, 2))) rfl rfl rfl
  · exact fun d lv st M Q x z => jx_k_b2 (jx_fok (by decide +kernel : decode (jx_mb 58) 14 = .ok (.if_icmp .lt 6, 3))) rfl jx_hLt
  · exact fun d lv st M Q => jx_ev_st (jx_fok (by decide +kernel : decode (jx_mb 58) 17 = .ok (.bipush (-2), 2))) rfl rfl rfl
  · exact fun d lv M Q x => jx_k_ri (jx_fok (by decide +kernel : decode (jx_mb 58) 19 = .ok (.ireturn, 1))) rfl
  · exact fun d st M Q l1 l2 x => jx_ev_st (jx_fok (by decide +kernel : decode (jx_mb 58) 20 = .ok (.aload_n 0, 1))) rfl rfl rfl
  · exact fun d lv st M Q => jx_k_gf (jx_fok (by decide +kernel : decode (jx_mb 58) 21 = .ok (.getfield 55, 3))) rfl rfl rfl
  · exact fun d lv M Q a0 hk => jx_ev_ci (jx_fok (by decide +kernel : decode (jx_mb 58) 24 = .ok (.invokevirtual 123, 3))) rfl (jx_ccV (As := []) (rest := []) rfl rfl rfl hk rfl rfl) (by decide)
  · exact fun d lv st M Q x => jx_k_b1n (jx_fok (by decide +kernel : decode (jx_mb 58) 27 = .ok (.ifCond .ne 6, 3))) rfl jx_hNe
  · exact fun d lv st M Q => jx_ev_st (jx_fok (by decide +kernel : decode (jx_mb 58) 30 = .ok (.bipush (-3), 2))) rfl rfl rfl
  · exact fun d lv M Q x => jx_k_ri (jx_fok (by decide +kernel : decode (jx_mb 58) 32 = .ok (.ireturn, 1))) rfl
  · exact fun d st M Q l0 l1 x => jx_ev_st (jx_fok (by decide +kernel : decode (jx_mb 58) 33 = .ok (.iload_n 2, 1))) rfl rfl rfl
  · exact fun d st M Q l1 l2 x => jx_ev_st (jx_fok (by decide +kernel : decode (jx_mb 58) 34 = .ok (.aload_n 0, 1))) rfl rfl rfl
  · exact fun d lv st M Q => jx_k_gf (jx_fok (by decide +kernel : decode (jx_mb 58) 35 = .ok (.getfield 55, 3))) rfl rfl rfl
  · exact fun d lv st M Q k hk => jx_k_gf (jx_fok (by decide +kernel : decode (jx_mb 58) 38 = .ok (.getfield 92, 3))) rfl hk rfl
  · exact fun d lv st M Q x z => jx_k_b2 (jx_fok (by decide +kernel : decode (jx_mb 58) 41 = .ok (.if_icmp .lt 6, 3))) rfl jx_hLt
  · exact fun d lv st M Q => jx_ev_st (jx_fok (by decide +kernel : decode (jx_mb 58) 44 = .ok (.bipush (-9), 2))) rfl rfl rfl
  · exact fun d lv M Q x => jx_k_ri (jx_fok (by decide +kernel : decode (jx_mb 58) 46 = .ok (.ireturn, 1))) rfl
  · exact fun d st M Q l1 l2 x => jx_ev_st (jx_fok (by decide +kernel : decode (jx_mb 58) 47 = .ok (.aload_n 0, 1))) rfl rfl rfl
  · exact fun d lv st M Q => jx_k_gf (jx_fok (by decide +kernel : decode (jx_mb 58) 48 = .ok (.getfield 48, 3))) rfl rfl rfl
  · exact fun d st M Q l1 l2 x => jx_ev_st (jx_fok (by decide +kernel : decode (jx_mb 58) 51 = .ok (.aload_n 0, 1))) rfl rfl rfl
  · exact fun d lv st M Q => jx_k_gf (jx_fok (by decide +kernel : decode (jx_mb 58) 52 = .ok (.getfield 55, 3))) rfl rfl rfl
  · exact fun d st M Q l0 l2 x => jx_ev_st (jx_fok (by decide +kernel : decode (jx_mb 58) 55 = .ok (.iload_n 1, 1))) rfl rfl rfl
  · exact fun d lv M Q a0 a1 => jx_ev_cv (jx_fok (by decide +kernel : decode (jx_mb 58) 56 = .ok (.invokevirtual 182, 3))) rfl (jx_ccV (As := [.ref a1, .int a0]) (rest := []) rfl rfl rfl rfl rfl rfl) rfl
  · exact fun d st M Q l1 l2 x => jx_ev_st (jx_fok (by decide +kernel : decode (jx_mb 58) 59 = .ok (.aload_n 0, 1))) rfl rfl rfl
  · exact fun d lv st M Q => jx_k_gf (jx_fok (by decide +kernel : decode (jx_mb 58) 60 = .ok (.getfield 48, 3))) rfl rfl rfl
  · exact fun d lv M Q => jx_ev_ci (jx_fok (by decide +kernel : decode (jx_mb 58) 63 = .ok (.invokevirtual 191, 3))) rfl (jx_ccV (As := []) (rest := []) rfl rfl rfl rfl rfl rfl) (by decide)
  · exact fun d lv st M Q x => jx_k_b1 (jx_fok (by decide +kernel : decode (jx_mb 58) 66 = .ok (.ifCond .eq 15, 3))) rfl jx_hEq
  · exact fun d st M Q l1 l2 x => jx_ev_st (jx_fok (by decide +kernel : decode (jx_mb 58) 69 = .ok (.aload_n 0, 1))) rfl rfl rfl
  · exact fun d lv st M Q => jx_k_gf (jx_fok (by decide +kernel : decode (jx_mb 58) 70 = .ok (.getfield 48, 3))) rfl rfl rfl
  · exact fun d lv st M Q => jx_k_gf (jx_fok (by decide +kernel : decode (jx_mb 58) 73 = .ok (.getfield 194, 3))) rfl rfl rfl
  · exact fun d st M Q l0 l1 x => jx_ev_st (jx_fok (by decide +kernel : decode (jx_mb 58) 76 = .ok (.iload_n 2, 1))) rfl rfl rfl
  · exact fun d lv st M Q x a ha => jx_k_al (jx_fok (by decide +kernel : decode (jx_mb 58) 77 = .ok (.iaload, 1))) ha
  · exact fun d lv st M Q => jx_k_goto (jx_fok (by decide +kernel : decode (jx_mb 58) 78 = .ok (.goto 5, 3))) rfl
  · exact fun d lv st M Q => jx_ev_st (jx_fok (by decide +kernel : decode (jx_mb 58) 81 = .ok (.bipush (-9), 2))) rfl rfl rfl
  · exact fun d lv M Q x => jx_k_ri (jx_fok (by decide +kernel : decode (jx_mb 58) 83 = .ok (.ireturn, 1))) rfl
theorem kX7_order (d : Nat) (M : jx_M) (q : Int32 → jx_M → Prop) (a0 a1 a2 : Value) : jx_I d 58 [a0, a1, a2] M q ↔ jx_Ev d 58 0 [some a0, some a1, some a2] [] M (jx_qI q) := Iff.rfl
set_option maxRecDepth 100000 in
theorem eX7_reading :
  (∀ (d : Nat) (st : List Value) (M : jx_M) (Q : jx_Po) (l1 l2 l3 : Option Value) (x : Nat), jx_Ev d 59 0 [some (.ref x), l1, l2, l3] st M Q ↔ jx_Ev d 59 1 [some (.ref x), l1, l2, l3] (.ref x :: st) M Q) ∧
  (∀ (d : Nat) (lv : List (Option Value)) (st : List Value) (M : jx_M) (Q : jx_Po), jx_Ev d 59 1 lv (.ref 0 :: st) M Q ↔ jx_Ev d 59 4 lv (jx_rv (M 0 6) :: st) M Q) ∧
  (∀ (d : Nat) (st : List Value) (M : jx_M) (Q : jx_Po) (l0 l2 l3 : Option Value) (x : Int32), jx_Ev d 59 4 [l0, some (.int x), l2, l3] st M Q ↔ jx_Ev d 59 5 [l0, some (.int x), l2, l3] (.int x :: st) M Q) ∧
  (∀ (d : Nat) (lv : List (Option Value)) (M : jx_M) (Q : jx_Po) (a0 : Int32) (a1 : Nat) (hk : jx_cl a1 = 1), jx_Ev (d + 1) 59 5 lv [.int a0, .ref a1] M Q ↔ jx_I d 6 [.ref a1, .int a0] M (fun x M => jx_Ev (d + 1) 59 8 lv (.int x :: []) M Q)) ∧
  (∀ (d : Nat) (lv : List (Option Value)) (st : List Value) (M : jx_M) (Q : jx_Po) (x : Int32), jx_Ev d 59 8 lv (.int x :: st) M Q ↔ (if x = 0 then jx_Ev d 59 11 lv st M Q else jx_Ev d 59 13 lv st M Q)) ∧
  (∀ (d : Nat) (lv : List (Option Value)) (st : List Value) (M : jx_M) (Q : jx_Po), jx_Ev d 59 11 lv st M Q ↔ jx_Ev d 59 12 lv (.int (-1) :: st) M Q) ∧
  (∀ (d : Nat) (lv : List (Option Value)) (M : jx_M) (Q : jx_Po) (x : Int32), jx_Ev d 59 12 lv [.int x] M Q ↔ Q [.int x] M) ∧
  (∀ (d : Nat) (st : List Value) (M : jx_M) (Q : jx_Po) (l0 l1 l3 : Option Value) (x : Int32), jx_Ev d 59 13 [l0, l1, some (.int x), l3] st M Q ↔ jx_Ev d 59 14 [l0, l1, some (.int x), l3] (.int x :: st) M Q) ∧
  (∀ (d : Nat) (lv : List (Option Value)) (M : jx_M) (Q : jx_Po) (a0 : Int32), jx_Ev (d + 1) 59 14 lv [.int a0] M Q ↔ jx_I d 82 [.int a0] M (fun x M => jx_Ev (d + 1) 59 17 lv (.int x :: []) M Q)) ∧
  (∀ (d : Nat) (lv : List (Option Value)) (st : List Value) (M : jx_M) (Q : jx_Po) (x : Int32), jx_Ev d 59 17 lv (.int x :: st) M Q ↔ (if x = 0 then jx_Ev d 59 30 lv st M Q else jx_Ev d 59 20 lv st M Q)) ∧
  (∀ (d : Nat) (st : List Value) (M : jx_M) (Q : jx_Po) (l0 l1 l2 : Option Value) (x : Int32), jx_Ev d 59 20 [l0, l1, l2, some (.int x)] st M Q ↔ jx_Ev d 59 21 [l0, l1, l2, some (.int x)] (.int x :: st) M Q) ∧
  (∀ (d : Nat) (lv : List (Option Value)) (st : List Value) (M : jx_M) (Q : jx_Po) (x : Int32), jx_Ev d 59 21 lv (.int x :: st) M Q ↔ (if x < 0 then jx_Ev d 59 30 lv st M Q else jx_Ev d 59 24 lv st M Q)) ∧
  (∀ (d : Nat) (st : List Value) (M : jx_M) (Q : jx_Po) (l0 l1 l2 : Option Value) (x : Int32), jx_Ev d 59 24 [l0, l1, l2, some (.int x)] st M Q ↔ jx_Ev d 59 25 [l0, l1, l2, some (.int x)] (.int x :: st) M Q) ∧
  (∀ (d : Nat) (lv : List (Option Value)) (st : List Value) (M : jx_M) (Q : jx_Po), jx_Ev d 59 25 lv st M Q ↔ jx_Ev d 59 27 lv (.int 99 :: st) M Q) ∧
  (∀ (d : Nat) (lv : List (Option Value)) (st : List Value) (M : jx_M) (Q : jx_Po) (x z : Int32), jx_Ev d 59 27 lv (.int z :: .int x :: st) M Q ↔ (if x ≤ z then jx_Ev d 59 33 lv st M Q else jx_Ev d 59 30 lv st M Q)) ∧
  (∀ (d : Nat) (lv : List (Option Value)) (st : List Value) (M : jx_M) (Q : jx_Po), jx_Ev d 59 30 lv st M Q ↔ jx_Ev d 59 32 lv (.int (-2) :: st) M Q) ∧
  (∀ (d : Nat) (lv : List (Option Value)) (M : jx_M) (Q : jx_Po) (x : Int32), jx_Ev d 59 32 lv [.int x] M Q ↔ Q [.int x] M) ∧
  (∀ (d : Nat) (st : List Value) (M : jx_M) (Q : jx_Po) (l1 l2 l3 : Option Value) (x : Nat), jx_Ev d 59 33 [some (.ref x), l1, l2, l3] st M Q ↔ jx_Ev d 59 34 [some (.ref x), l1, l2, l3] (.ref x :: st) M Q) ∧
  (∀ (d : Nat) (lv : List (Option Value)) (st : List Value) (M : jx_M) (Q : jx_Po), jx_Ev d 59 34 lv (.ref 0 :: st) M Q ↔ jx_Ev d 59 37 lv (.ref 3 :: st) M Q) ∧
  (∀ (d : Nat) (st : List Value) (M : jx_M) (Q : jx_Po) (l0 l2 l3 : Option Value) (x : Int32), jx_Ev d 59 37 [l0, some (.int x), l2, l3] st M Q ↔ jx_Ev d 59 38 [l0, some (.int x), l2, l3] (.int x :: st) M Q) ∧
  (∀ (d : Nat) (st : List Value) (M : jx_M) (Q : jx_Po) (l0 l1 l3 : Option Value) (x : Int32), jx_Ev d 59 38 [l0, l1, some (.int x), l3] st M Q ↔ jx_Ev d 59 39 [l0, l1, some (.int x), l3] (.int x :: st) M Q) ∧
  (∀ (d : Nat) (st : List Value) (M : jx_M) (Q : jx_Po) (l0 l1 l2 : Option Value) (x : Int32), jx_Ev d 59 39 [l0, l1, l2, some (.int x)] st M Q ↔ jx_Ev d 59 40 [l0, l1, l2, some (.int x)] (.int x :: st) M Q) ∧
  (∀ (d : Nat) (lv : List (Option Value)) (M : jx_M) (Q : jx_Po) (a0 : Int32) (a1 : Int32) (a2 : Int32), jx_Ev (d + 1) 59 40 lv [.int a0, .int a1, .int a2, .ref 3] M Q ↔ jx_I d 18 [.ref 3, .int a2, .int a1, .int a0] M (fun x M => jx_Ev (d + 1) 59 43 lv (.int x :: []) M Q)) ∧
  (∀ (d : Nat) (lv : List (Option Value)) (M : jx_M) (Q : jx_Po) (x : Int32), jx_Ev d 59 43 lv [.int x] M Q ↔ Q [.int x] M) := by
  refine ⟨?_, ?_, ?_, ?_, ?_, ?_, ?_, ?_, ?_, ?_, ?_, ?_, ?_, ?_, ?_, ?_, ?_, ?_, ?_, ?_, ?_, ?_, ?_, ?_⟩
  · exact fun d st M Q l1 l2 l3 x => jx_ev_st (jx_fok (by decide +kernel : decode (jx_mb 59) 0 = .ok (.aload_n 0, 1))) rfl rfl rfl
  · exact fun d lv st M Q => jx_k_gf (jx_fok (by decide +kernel : decode (jx_mb 59) 1 = .ok (.getfield 55, 3))) rfl rfl rfl
  · exact fun d st M Q l0 l2 l3 x => jx_ev_st (jx_fok (by decide +kernel : decode (jx_mb 59) 4 = .ok (.iload_n 1, 1))) rfl rfl rfl
  · exact fun d lv M Q a0 a1 hk => jx_ev_ci (jx_fok (by decide +kernel : decode (jx_mb 59) 5 = .ok (.invokevirtual 111, 3))) rfl (jx_ccV (As := [.int a0]) (rest := []) rfl rfl rfl hk rfl rfl) (by decide)
  · exact fun d lv st M Q x => jx_k_b1n (jx_fok (by decide +kernel : decode (jx_mb 59) 8 = .ok (.ifCond .ne 5, 3))) rfl jx_hNe
  · exact fun d lv st M Q => jx_ev_st (jx_fok (by decide +kernel : decode (jx_mb 59) 11 = .ok (.iconst (-1), 1))) rfl rfl rfl
  · exact fun d lv M Q x => jx_k_ri (jx_fok (by decide +kernel : decode (jx_mb 59) 12 = .ok (.ireturn, 1))) rfl
  · exact fun d st M Q l0 l1 l3 x => jx_ev_st (jx_fok (by decide +kernel : decode (jx_mb 59) 13 = .ok (.iload_n 2, 1))) rfl rfl rfl
  · exact fun d lv M Q a0 => jx_ev_ci (jx_fok (by decide +kernel : decode (jx_mb 59) 14 = .ok (.invokestatic 130, 3))) rfl (jx_ccS (As := [.int a0]) (rest := []) rfl rfl rfl rfl rfl) (by decide)
  · exact fun d lv st M Q x => jx_k_b1 (jx_fok (by decide +kernel : decode (jx_mb 59) 17 = .ok (.ifCond .eq 13, 3))) rfl jx_hEq
  · exact fun d st M Q l0 l1 l2 x => jx_ev_st (jx_fok (by decide +kernel : decode (jx_mb 59) 20 = .ok (.iload_n 3, 1))) rfl rfl rfl
  · exact fun d lv st M Q x => jx_k_b1 (jx_fok (by decide +kernel : decode (jx_mb 59) 21 = .ok (.ifCond .lt 9, 3))) rfl jx_hLt
  · exact fun d st M Q l0 l1 l2 x => jx_ev_st (jx_fok (by decide +kernel : decode (jx_mb 59) 24 = .ok (.iload_n 3, 1))) rfl rfl rfl
  · exact fun d lv st M Q => jx_ev_st (jx_fok (by decide +kernel : decode (jx_mb 59) 25 = .ok (.bipush 99, 2))) rfl rfl rfl
  · exact fun d lv st M Q x z => jx_k_b2 (jx_fok (by decide +kernel : decode (jx_mb 59) 27 = .ok (.if_icmp .le 6, 3))) rfl jx_hLe
  · exact fun d lv st M Q => jx_ev_st (jx_fok (by decide +kernel : decode (jx_mb 59) 30 = .ok (.bipush (-2), 2))) rfl rfl rfl
  · exact fun d lv M Q x => jx_k_ri (jx_fok (by decide +kernel : decode (jx_mb 59) 32 = .ok (.ireturn, 1))) rfl
  · exact fun d st M Q l1 l2 l3 x => jx_ev_st (jx_fok (by decide +kernel : decode (jx_mb 59) 33 = .ok (.aload_n 0, 1))) rfl rfl rfl
  · exact fun d lv st M Q => jx_k_gf (jx_fok (by decide +kernel : decode (jx_mb 59) 34 = .ok (.getfield 27, 3))) rfl rfl rfl
  · exact fun d st M Q l0 l2 l3 x => jx_ev_st (jx_fok (by decide +kernel : decode (jx_mb 59) 37 = .ok (.iload_n 1, 1))) rfl rfl rfl
  · exact fun d st M Q l0 l1 l3 x => jx_ev_st (jx_fok (by decide +kernel : decode (jx_mb 59) 38 = .ok (.iload_n 2, 1))) rfl rfl rfl
  · exact fun d st M Q l0 l1 l2 x => jx_ev_st (jx_fok (by decide +kernel : decode (jx_mb 59) 39 = .ok (.iload_n 3, 1))) rfl rfl rfl
  · exact fun d lv M Q a0 a1 a2 => jx_ev_ci (jx_fok (by decide +kernel : decode (jx_mb 59) 40 = .ok (.invokevirtual 197, 3))) rfl (jx_ccV (As := [.int a2, .int a1, .int a0]) (rest := []) rfl rfl rfl rfl rfl rfl) (by decide)
  · exact fun d lv M Q x => jx_k_ri (jx_fok (by decide +kernel : decode (jx_mb 59) 43 = .ok (.ireturn, 1))) rfl
theorem kX7_reading (d : Nat) (M : jx_M) (q : Int32 → jx_M → Prop) (a0 a1 a2 a3 : Value) : jx_I d 59 [a0, a1, a2, a3] M q ↔ jx_Ev d 59 0 [some a0, some a1, some a2, some a3] [] M (jx_qI q) := Iff.rfl
set_option maxRecDepth 100000 in
theorem eX7_back :
  (∀ (d : Nat) (st : List Value) (M : jx_M) (Q : jx_Po) (l0 : Option Value) (x : Int32), jx_Ev d 60 0 [l0, some (.int x)] st M Q ↔ jx_Ev d 60 1 [l0, some (.int x)] (.int x :: st) M Q) ∧
  (∀ (d : Nat) (lv : List (Option Value)) (st : List Value) (M : jx_M) (Q : jx_Po) (x : Int32), jx_Ev d 60 1 lv (.int x :: st) M Q ↔ (if x < 0 then jx_Ev d 60 15 lv st M Q else jx_Ev d 60 4 lv st M Q)) ∧
  (∀ (d : Nat) (st : List Value) (M : jx_M) (Q : jx_Po) (l0 : Option Value) (x : Int32), jx_Ev d 60 4 [l0, some (.int x)] st M Q ↔ jx_Ev d 60 5 [l0, some (.int x)] (.int x :: st) M Q) ∧
  (∀ (d : Nat) (st : List Value) (M : jx_M) (Q : jx_Po) (l1 : Option Value) (x : Nat), jx_Ev d 60 5 [some (.ref x), l1] st M Q ↔ jx_Ev d 60 6 [some (.ref x), l1] (.ref x :: st) M Q) ∧
  (∀ (d : Nat) (lv : List (Option Value)) (st : List Value) (M : jx_M) (Q : jx_Po), jx_Ev d 60 6 lv (.ref 0 :: st) M Q ↔ jx_Ev d 60 9 lv (.ref 3 :: st) M Q) ∧
  (∀ (d : Nat) (lv : List (Option Value)) (st : List Value) (M : jx_M) (Q : jx_Po), jx_Ev d 60 9 lv (.ref 3 :: st) M Q ↔ jx_Ev d 60 12 lv (.int (M 3 3) :: st) M Q) ∧
  (∀ (d : Nat) (lv : List (Option Value)) (st : List Value) (M : jx_M) (Q : jx_Po) (x z : Int32), jx_Ev d 60 12 lv (.int z :: .int x :: st) M Q ↔ (if x ≤ z then jx_Ev d 60 18 lv st M Q else jx_Ev d 60 15 lv st M Q)) ∧
  (∀ (d : Nat) (lv : List (Option Value)) (st : List Value) (M : jx_M) (Q : jx_Po), jx_Ev d 60 15 lv st M Q ↔ jx_Ev d 60 17 lv (.int (-2) :: st) M Q) ∧
  (∀ (d : Nat) (lv : List (Option Value)) (M : jx_M) (Q : jx_Po) (x : Int32), jx_Ev d 60 17 lv [.int x] M Q ↔ Q [.int x] M) ∧
  (∀ (d : Nat) (st : List Value) (M : jx_M) (Q : jx_Po) (l1 : Option Value) (x : Nat), jx_Ev d 60 18 [some (.ref x), l1] st M Q ↔ jx_Ev d 60 19 [some (.ref x), l1] (.ref x :: st) M Q) ∧
  (∀ (d : Nat) (lv : List (Option Value)) (st : List Value) (M : jx_M) (Q : jx_Po), jx_Ev d 60 19 lv (.ref 0 :: st) M Q ↔ jx_Ev d 60 22 lv (.ref 3 :: st) M Q) ∧
  (∀ (d : Nat) (lv : List (Option Value)) (st : List Value) (M : jx_M) (Q : jx_Po) (x : Nat), jx_Ev d 60 22 lv (.ref x :: st) M Q ↔ jx_Ev d 60 23 lv (.ref x :: .ref x :: st) M Q) ∧
  (∀ (d : Nat) (lv : List (Option Value)) (st : List Value) (M : jx_M) (Q : jx_Po), jx_Ev d 60 23 lv (.ref 3 :: st) M Q ↔ jx_Ev d 60 26 lv (.int (M 3 3) :: st) M Q) ∧
  (∀ (d : Nat) (st : List Value) (M : jx_M) (Q : jx_Po) (l0 : Option Value) (x : Int32), jx_Ev d 60 26 [l0, some (.int x)] st M Q ↔ jx_Ev d 60 27 [l0, some (.int x)] (.int x :: st) M Q) ∧
  (∀ (d : Nat) (lv : List (Option Value)) (st : List Value) (M : jx_M) (Q : jx_Po) (x z : Int32), jx_Ev d 60 27 lv (.int z :: .int x :: st) M Q ↔ jx_Ev d 60 28 lv (.int (x - z) :: st) M Q) ∧
  (∀ (d : Nat) (lv : List (Option Value)) (st : List Value) (M : jx_M) (Q : jx_Po) (x : Int32), jx_Ev d 60 28 lv (.int x :: .ref 3 :: st) M Q ↔ jx_Ev d 60 31 lv st (jx_up M 3 3 x) Q) ∧
  (∀ (d : Nat) (st : List Value) (M : jx_M) (Q : jx_Po) (l1 : Option Value) (x : Nat), jx_Ev d 60 31 [some (.ref x), l1] st M Q ↔ jx_Ev d 60 32 [some (.ref x), l1] (.ref x :: st) M Q) ∧
  (∀ (d : Nat) (lv : List (Option Value)) (st : List Value) (M : jx_M) (Q : jx_Po), jx_Ev d 60 32 lv (.ref 0 :: st) M Q ↔ jx_Ev d 60 35 lv (.ref 3 :: st) M Q) ∧
  (∀ (d : Nat) (lv : List (Option Value)) (st : List Value) (M : jx_M) (Q : jx_Po), jx_Ev d 60 35 lv (.ref 3 :: st) M Q ↔ jx_Ev d 60 38 lv (.int (M 3 3) :: st) M Q) ∧
  (∀ (d : Nat) (lv : List (Option Value)) (M : jx_M) (Q : jx_Po) (x : Int32), jx_Ev d 60 38 lv [.int x] M Q ↔ Q [.int x] M) := by
  refine ⟨?_, ?_, ?_, ?_, ?_, ?_, ?_, ?_, ?_, ?_, ?_, ?_, ?_, ?_, ?_, ?_, ?_, ?_, ?_, ?_⟩
  · exact fun d st M Q l0 x => jx_ev_st (jx_fok (by decide +kernel : decode (jx_mb 60) 0 = .ok (.iload_n 1, 1))) rfl rfl rfl
  · exact fun d lv st M Q x => jx_k_b1 (jx_fok (by decide +kernel : decode (jx_mb 60) 1 = .ok (.ifCond .lt 14, 3))) rfl jx_hLt
  · exact fun d st M Q l0 x => jx_ev_st (jx_fok (by decide +kernel : decode (jx_mb 60) 4 = .ok (.iload_n 1, 1))) rfl rfl rfl
  · exact fun d st M Q l1 x => jx_ev_st (jx_fok (by decide +kernel : decode (jx_mb 60) 5 = .ok (.aload_n 0, 1))) rfl rfl rfl
  · exact fun d lv st M Q => jx_k_gf (jx_fok (by decide +kernel : decode (jx_mb 60) 6 = .ok (.getfield 27, 3))) rfl rfl rfl
  · exact fun d lv st M Q => jx_k_gf (jx_fok (by decide +kernel : decode (jx_mb 60) 9 = .ok (.getfield 95, 3))) rfl rfl rfl
  · exact fun d lv st M Q x z => jx_k_b2 (jx_fok (by decide +kernel : decode (jx_mb 60) 12 = .ok (.if_icmp .le 6, 3))) rfl jx_hLe
  · exact fun d lv st M Q => jx_ev_st (jx_fok (by decide +kernel : decode (jx_mb 60) 15 = .ok (.bipush (-2), 2))) rfl rfl rfl
  · exact fun d lv M Q x => jx_k_ri (jx_fok (by decide +kernel : decode (jx_mb 60) 17 = .ok (.ireturn, 1))) rfl
  · exact fun d st M Q l1 x => jx_ev_st (jx_fok (by decide +kernel : decode (jx_mb 60) 18 = .ok (.aload_n 0, 1))) rfl rfl rfl
  · exact fun d lv st M Q => jx_k_gf (jx_fok (by decide +kernel : decode (jx_mb 60) 19 = .ok (.getfield 27, 3))) rfl rfl rfl
  · exact fun d lv st M Q x => jx_ev_st (jx_fok (by decide +kernel : decode (jx_mb 60) 22 = .ok (.dup, 1))) rfl rfl rfl
  · exact fun d lv st M Q => jx_k_gf (jx_fok (by decide +kernel : decode (jx_mb 60) 23 = .ok (.getfield 95, 3))) rfl rfl rfl
  · exact fun d st M Q l0 x => jx_ev_st (jx_fok (by decide +kernel : decode (jx_mb 60) 26 = .ok (.iload_n 1, 1))) rfl rfl rfl
  · exact fun d lv st M Q x z => jx_ev_st (jx_fok (by decide +kernel : decode (jx_mb 60) 27 = .ok (.isub, 1))) rfl rfl rfl
  · exact fun d lv st M Q x => jx_k_pf0 (jx_fok (by decide +kernel : decode (jx_mb 60) 28 = .ok (.putfield 95, 3))) rfl rfl rfl
  · exact fun d st M Q l1 x => jx_ev_st (jx_fok (by decide +kernel : decode (jx_mb 60) 31 = .ok (.aload_n 0, 1))) rfl rfl rfl
  · exact fun d lv st M Q => jx_k_gf (jx_fok (by decide +kernel : decode (jx_mb 60) 32 = .ok (.getfield 27, 3))) rfl rfl rfl
  · exact fun d lv st M Q => jx_k_gf (jx_fok (by decide +kernel : decode (jx_mb 60) 35 = .ok (.getfield 95, 3))) rfl rfl rfl
  · exact fun d lv M Q x => jx_k_ri (jx_fok (by decide +kernel : decode (jx_mb 60) 38 = .ok (.ireturn, 1))) rfl
theorem kX7_back (d : Nat) (M : jx_M) (q : Int32 → jx_M → Prop) (a0 a1 : Value) : jx_I d 60 [a0, a1] M q ↔ jx_Ev d 60 0 [some a0, some a1] [] M (jx_qI q) := Iff.rfl
set_option maxRecDepth 100000 in
theorem eX7_sizes :
  (∀ (d : Nat) (st : List Value) (M : jx_M) (Q : jx_Po) (l1 l2 l3 l4 : Option Value) (x : Nat), jx_Ev d 61 0 [some (.ref x), l1, l2, l3, l4] st M Q ↔ jx_Ev d 61 1 [some (.ref x), l1, l2, l3, l4] (.ref x :: st) M Q) ∧
  (∀ (d : Nat) (lv : List (Option Value)) (st : List Value) (M : jx_M) (Q : jx_Po), jx_Ev d 61 1 lv (.ref 0 :: st) M Q ↔ jx_Ev d 61 4 lv (jx_rv (M 0 6) :: st) M Q) ∧
  (∀ (d : Nat) (st : List Value) (M : jx_M) (Q : jx_Po) (l0 l2 l3 l4 : Option Value) (x : Int32), jx_Ev d 61 4 [l0, some (.int x), l2, l3, l4] st M Q ↔ jx_Ev d 61 5 [l0, some (.int x), l2, l3, l4] (.int x :: st) M Q) ∧
  (∀ (d : Nat) (lv : List (Option Value)) (M : jx_M) (Q : jx_Po) (a0 : Int32) (a1 : Nat) (hk : jx_cl a1 = 1), jx_Ev (d + 1) 61 5 lv [.int a0, .ref a1] M Q ↔ jx_I d 6 [.ref a1, .int a0] M (fun x M => jx_Ev (d + 1) 61 8 lv (.int x :: []) M Q)) ∧
  (∀ (d : Nat) (lv : List (Option Value)) (st : List Value) (M : jx_M) (Q : jx_Po) (x : Int32), jx_Ev d 61 8 lv (.int x :: st) M Q ↔ (if x = 0 then jx_Ev d 61 11 lv st M Q else jx_Ev d 61 13 lv st M Q)) ∧
  (∀ (d : Nat) (lv : List (Option Value)) (st : List Value) (M : jx_M) (Q : jx_Po), jx_Ev d 61 11 lv st M Q ↔ jx_Ev d 61 12 lv (.int (-1) :: st) M Q) ∧
  (∀ (d : Nat) (lv : List (Option Value)) (M : jx_M) (Q : jx_Po) (x : Int32), jx_Ev d 61 12 lv [.int x] M Q ↔ Q [.int x] M) ∧
  (∀ (d : Nat) (st : List Value) (M : jx_M) (Q : jx_Po) (l1 l2 l3 l4 : Option Value) (x : Nat), jx_Ev d 61 13 [some (.ref x), l1, l2, l3, l4] st M Q ↔ jx_Ev d 61 14 [some (.ref x), l1, l2, l3, l4] (.ref x :: st) M Q) ∧
  (∀ (d : Nat) (lv : List (Option Value)) (st : List Value) (M : jx_M) (Q : jx_Po), jx_Ev d 61 14 lv (.ref 0 :: st) M Q ↔ jx_Ev d 61 17 lv (jx_rv (M 0 6) :: st) M Q) ∧
  (∀ (d : Nat) (lv : List (Option Value)) (st : List Value) (M : jx_M) (Q : jx_Po) (k : Nat) (hk : jx_cl k = 1), jx_Ev d 61 17 lv (.ref k :: st) M Q ↔ jx_Ev d 61 20 lv (.ref (k + 4) :: st) M Q) ∧
  (∀ (d : Nat) (st : List Value) (M : jx_M) (Q : jx_Po) (l0 l2 l3 l4 : Option Value) (x : Int32), jx_Ev d 61 20 [l0, some (.int x), l2, l3, l4] st M Q ↔ jx_Ev d 61 21 [l0, some (.int x), l2, l3, l4] (.int x :: st) M Q) ∧
  (∀ (d : Nat) (lv : List (Option Value)) (st : List Value) (M : jx_M) (Q : jx_Po) (x : Int32) (a : Nat) (ha : jx_cl a = 9), jx_Ev d 61 21 lv (.int x :: .ref a :: st) M Q ↔ (vp_in x (jx_sz a) ∧ jx_Ev d 61 22 lv (.int (M a x.toNatClampNeg) :: st) M Q)) ∧
  (∀ (d : Nat) (st : List Value) (M : jx_M) (Q : jx_Po) (l0 l1 l2 l3 l4 : Option Value) (x : Int32), jx_Ev d 61 22 [l0, l1, l2, l3, l4] (.int x :: st) M Q ↔ jx_Ev d 61 23 [l0, l1, some (.int x), l3, l4] st M Q) ∧
  (∀ (d : Nat) (lv : List (Option Value)) (st : List Value) (M : jx_M) (Q : jx_Po), jx_Ev d 61 23 lv st M Q ↔ jx_Ev d 61 24 lv (.int 0 :: st) M Q) ∧
  (∀ (d : Nat) (st : List Value) (M : jx_M) (Q : jx_Po) (l0 l1 l2 l3 l4 : Option Value) (x : Int32), jx_Ev d 61 24 [l0, l1, l2, l3, l4] (.int x :: st) M Q ↔ jx_Ev d 61 25 [l0, l1, l2, some (.int x), l4] st M Q) ∧
  (∀ (d : Nat) (lv : List (Option Value)) (st : List Value) (M : jx_M) (Q : jx_Po), jx_Ev d 61 25 lv st M Q ↔ jx_Ev d 61 26 lv (.int 1 :: st) M Q) ∧
  (∀ (d : Nat) (st : List Value) (M : jx_M) (Q : jx_Po) (l0 l1 l2 l3 l4 : Option Value) (x : Int32), jx_Ev d 61 26 [l0, l1, l2, l3, l4] (.int x :: st) M Q ↔ jx_Ev d 61 28 [l0, l1, l2, l3, some (.int x)] st M Q) ∧
  (∀ (d : Nat) (lv : List (Option Value)) (st : List Value) (M : jx_M) (Q : jx_Po), jx_Ev d 61 30 lv st M Q ↔ jx_Ev d 61 32 lv (.int 9 :: st) M Q) ∧
  (∀ (d : Nat) (lv : List (Option Value)) (st : List Value) (M : jx_M) (Q : jx_Po) (x z : Int32), jx_Ev d 61 32 lv (.int z :: .int x :: st) M Q ↔ (if z < x then jx_Ev d 61 68 lv st M Q else jx_Ev d 61 35 lv st M Q)) ∧
  (∀ (d : Nat) (st : List Value) (M : jx_M) (Q : jx_Po) (l1 l2 l3 l4 : Option Value) (x : Nat), jx_Ev d 61 35 [some (.ref x), l1, l2, l3, l4] st M Q ↔ jx_Ev d 61 36 [some (.ref x), l1, l2, l3, l4] (.ref x :: st) M Q) ∧
  (∀ (d : Nat) (lv : List (Option Value)) (st : List Value) (M : jx_M) (Q : jx_Po), jx_Ev d 61 36 lv (.ref 0 :: st) M Q ↔ jx_Ev d 61 39 lv (jx_rv (M 0 6) :: st) M Q) ∧
  (∀ (d : Nat) (lv : List (Option Value)) (st : List Value) (M : jx_M) (Q : jx_Po) (k : Nat) (hk : jx_cl k = 1), jx_Ev d 61 39 lv (.ref k :: st) M Q ↔ jx_Ev d 61 42 lv (.ref (k + 4) :: st) M Q) ∧
  (∀ (d : Nat) (st : List Value) (M : jx_M) (Q : jx_Po) (l0 l2 l3 l4 : Option Value) (x : Int32), jx_Ev d 61 42 [l0, some (.int x), l2, l3, l4] st M Q ↔ jx_Ev d 61 43 [l0, some (.int x), l2, l3, l4] (.int x :: st) M Q) ∧
  (∀ (d : Nat) (st : List Value) (M : jx_M) (Q : jx_Po) (l0 l1 l2 l3 : Option Value) (x : Int32), jx_Ev d 61 43 [l0, l1, l2, l3, some (.int x)] st M Q ↔ jx_Ev d 61 45 [l0, l1, l2, l3, some (.int x)] (.int x :: st) M Q) ∧
  (∀ (d : Nat) (lv : List (Option Value)) (st : List Value) (M : jx_M) (Q : jx_Po) (x z : Int32) (a : Nat) (ha : jx_cl a = 9), jx_Ev d 61 45 lv (.int z :: .int x :: .ref a :: st) M Q ↔ (vp_in x (jx_sz a) ∧ jx_Ev d 61 46 lv st (jx_up M a x.toNatClampNeg z) Q)) ∧
  (∀ (d : Nat) (st : List Value) (M : jx_M) (Q : jx_Po) (l0 l1 l2 l4 : Option Value) (x : Int32), jx_Ev d 61 46 [l0, l1, l2, some (.int x), l4] st M Q ↔ jx_Ev d 61 47 [l0, l1, l2, some (.int x), l4] (.int x :: st) M Q) ∧
  (∀ (d : Nat) (st : List Value) (M : jx_M) (Q : jx_Po) (l1 l2 l3 l4 : Option Value) (x : Nat), jx_Ev d 61 47 [some (.ref x), l1, l2, l3, l4] st M Q ↔ jx_Ev d 61 48 [some (.ref x), l1, l2, l3, l4] (.ref x :: st) M Q) ∧
  (∀ (d : Nat) (lv : List (Option Value)) (st : List Value) (M : jx_M) (Q : jx_Po), jx_Ev d 61 48 lv (.ref 0 :: st) M Q ↔ jx_Ev d 61 51 lv (.ref 3 :: st) M Q) ∧
  (∀ (d : Nat) (st : List Value) (M : jx_M) (Q : jx_Po) (l1 l2 l3 l4 : Option Value) (x : Nat), jx_Ev d 61 51 [some (.ref x), l1, l2, l3, l4] st M Q ↔ jx_Ev d 61 52 [some (.ref x), l1, l2, l3, l4] (.ref x :: st) M Q) ∧
  (∀ (d : Nat) (lv : List (Option Value)) (st : List Value) (M : jx_M) (Q : jx_Po), jx_Ev d 61 52 lv (.ref 0 :: st) M Q ↔ jx_Ev d 61 55 lv (jx_rv (M 0 6) :: st) M Q) ∧
  (∀ (d : Nat) (st : List Value) (M : jx_M) (Q : jx_Po) (l0 l1 l2 l3 : Option Value) (x : Int32), jx_Ev d 61 55 [l0, l1, l2, l3, some (.int x)] st M Q ↔ jx_Ev d 61 57 [l0, l1, l2, l3, some (.int x)] (.int x :: st) M Q) ∧
  (∀ (d : Nat) (lv : List (Option Value)) (M : jx_M) (Q : jx_Po) (a0 : Int32) (a1 : Nat) (a3 : Int32), jx_Ev (d + 1) 61 57 lv [.int a0, .ref a1, .ref 3, .int a3] M Q ↔ jx_I d 19 [.ref 3, .ref a1, .int a0] M (fun x M => jx_Ev (d + 1) 61 60 lv (.int x :: [.int a3]) M Q)) ∧
  (∀ (d : Nat) (lv : List (Option Value)) (st : List Value) (M : jx_M) (Q : jx_Po) (x z : Int32), jx_Ev d 61 60 lv (.int z :: .int x :: st) M Q ↔ jx_Ev d 61 61 lv (.int (x ||| z) :: st) M Q) ∧
  (∀ (d : Nat) (st : List Value) (M : jx_M) (Q : jx_Po) (l0 l1 l2 l3 l4 : Option Value) (x : Int32), jx_Ev d 61 61 [l0, l1, l2, l3, l4] (.int x :: st) M Q ↔ jx_Ev d 61 62 [l0, l1, l2, some (.int x), l4] st M Q) ∧
  (∀ (d : Nat) (st : List Value) (M : jx_M) (Q : jx_Po) (l0 l1 l2 l3 : Option Value) (x : Int32), jx_Ev d 61 62 [l0, l1, l2, l3, some (.int x)] st M Q ↔ jx_Ev d 61 65 [l0, l1, l2, l3, some (.int (x + 1))] st M Q) ∧
  (∀ (d : Nat) (lv : List (Option Value)) (st : List Value) (M : jx_M) (Q : jx_Po), jx_Ev d 61 65 lv st M Q ↔ jx_Ev d 61 28 lv st M Q) ∧
  (∀ (d : Nat) (st : List Value) (M : jx_M) (Q : jx_Po) (l1 l2 l3 l4 : Option Value) (x : Nat), jx_Ev d 61 68 [some (.ref x), l1, l2, l3, l4] st M Q ↔ jx_Ev d 61 69 [some (.ref x), l1, l2, l3, l4] (.ref x :: st) M Q) ∧
  (∀ (d : Nat) (lv : List (Option Value)) (st : List Value) (M : jx_M) (Q : jx_Po), jx_Ev d 61 69 lv (.ref 0 :: st) M Q ↔ jx_Ev d 61 72 lv (jx_rv (M 0 6) :: st) M Q) ∧
  (∀ (d : Nat) (lv : List (Option Value)) (st : List Value) (M : jx_M) (Q : jx_Po) (k : Nat) (hk : jx_cl k = 1), jx_Ev d 61 72 lv (.ref k :: st) M Q ↔ jx_Ev d 61 75 lv (.ref (k + 4) :: st) M Q) ∧
  (∀ (d : Nat) (st : List Value) (M : jx_M) (Q : jx_Po) (l0 l2 l3 l4 : Option Value) (x : Int32), jx_Ev d 61 75 [l0, some (.int x), l2, l3, l4] st M Q ↔ jx_Ev d 61 76 [l0, some (.int x), l2, l3, l4] (.int x :: st) M Q) ∧
  (∀ (d : Nat) (st : List Value) (M : jx_M) (Q : jx_Po) (l0 l1 l3 l4 : Option Value) (x : Int32), jx_Ev d 61 76 [l0, l1, some (.int x), l3, l4] st M Q ↔ jx_Ev d 61 77 [l0, l1, some (.int x), l3, l4] (.int x :: st) M Q) ∧
  (∀ (d : Nat) (lv : List (Option Value)) (st : List Value) (M : jx_M) (Q : jx_Po) (x z : Int32) (a : Nat) (ha : jx_cl a = 9), jx_Ev d 61 77 lv (.int z :: .int x :: .ref a :: st) M Q ↔ (vp_in x (jx_sz a) ∧ jx_Ev d 61 78 lv st (jx_up M a x.toNatClampNeg z) Q)) ∧
  (∀ (d : Nat) (st : List Value) (M : jx_M) (Q : jx_Po) (l0 l1 l2 l4 : Option Value) (x : Int32), jx_Ev d 61 78 [l0, l1, l2, some (.int x), l4] st M Q ↔ jx_Ev d 61 79 [l0, l1, l2, some (.int x), l4] (.int x :: st) M Q) ∧
  (∀ (d : Nat) (lv : List (Option Value)) (M : jx_M) (Q : jx_Po) (x : Int32), jx_Ev d 61 79 lv [.int x] M Q ↔ Q [.int x] M) := by
  refine ⟨?_, ?_, ?_, ?_, ?_, ?_, ?_, ?_, ?_, ?_, ?_, ?_, ?_, ?_, ?_, ?_, ?_, ?_, ?_, ?_, ?_, ?_, ?_, ?_, ?_, ?_, ?_, ?_, ?_, ?_, ?_, ?_, ?_, ?_, ?_, ?_, ?_, ?_, ?_, ?_, ?_, ?_, ?_, ?_⟩
  · exact fun d st M Q l1 l2 l3 l4 x => jx_ev_st (jx_fok (by decide +kernel : decode (jx_mb 61) 0 = .ok (.aload_n 0, 1))) rfl rfl rfl
  · exact fun d lv st M Q => jx_k_gf (jx_fok (by decide +kernel : decode (jx_mb 61) 1 = .ok (.getfield 55, 3))) rfl rfl rfl
  · exact fun d st M Q l0 l2 l3 l4 x => jx_ev_st (jx_fok (by decide +kernel : decode (jx_mb 61) 4 = .ok (.iload_n 1, 1))) rfl rfl rfl
  · exact fun d lv M Q a0 a1 hk => jx_ev_ci (jx_fok (by decide +kernel : decode (jx_mb 61) 5 = .ok (.invokevirtual 111, 3))) rfl (jx_ccV (As := [.int a0]) (rest := []) rfl rfl rfl hk rfl rfl) (by decide)
  · exact fun d lv st M Q x => jx_k_b1n (jx_fok (by decide +kernel : decode (jx_mb 61) 8 = .ok (.ifCond .ne 5, 3))) rfl jx_hNe
  · exact fun d lv st M Q => jx_ev_st (jx_fok (by decide +kernel : decode (jx_mb 61) 11 = .ok (.iconst (-1), 1))) rfl rfl rfl
  · exact fun d lv M Q x => jx_k_ri (jx_fok (by decide +kernel : decode (jx_mb 61) 12 = .ok (.ireturn, 1))) rfl
  · exact fun d st M Q l1 l2 l3 l4 x => jx_ev_st (jx_fok (by decide +kernel : decode (jx_mb 61) 13 = .ok (.aload_n 0, 1))) rfl rfl rfl
  · exact fun d lv st M Q => jx_k_gf (jx_fok (by decide +kernel : decode (jx_mb 61) 14 = .ok (.getfield 55, 3))) rfl rfl rfl
  · exact fun d lv st M Q k hk => jx_k_gf (jx_fok (by decide +kernel : decode (jx_mb 61) 17 = .ok (.getfield 117, 3))) rfl hk rfl
  · exact fun d st M Q l0 l2 l3 l4 x => jx_ev_st (jx_fok (by decide +kernel : decode (jx_mb 61) 20 = .ok (.iload_n 1, 1))) rfl rfl rfl
  · exact fun d lv st M Q x a ha => jx_k_al (jx_fok (by decide +kernel : decode (jx_mb 61) 21 = .ok (.iaload, 1))) ha
  · exact fun d st M Q l0 l1 l2 l3 l4 x => jx_ev_st (jx_fok (by decide +kernel : decode (jx_mb 61) 22 = .ok (.istore_n 2, 1))) rfl rfl rfl
  · exact fun d lv st M Q => jx_ev_st (jx_fok (by decide +kernel : decode (jx_mb 61) 23 = .ok (.iconst 0, 1))) rfl rfl rfl
  · exact fun d st M Q l0 l1 l2 l3 l4 x => jx_ev_st (jx_fok (by decide +kernel : decode (jx_mb 61) 24 = .ok (.istore_n 3, 1))) rfl rfl rfl
  · exact fun d lv st M Q => jx_ev_st (jx_fok (by decide +kernel : decode (jx_mb 61) 25 = .ok (.iconst 1, 1))) rfl rfl rfl
  · exact fun d st M Q l0 l1 l2 l3 l4 x => jx_ev_st (jx_fok (by decide +kernel : decode (jx_mb 61) 26 = .ok (.istore 4, 2))) rfl rfl rfl
  · exact fun d lv st M Q => jx_ev_st (jx_fok (by decide +kernel : decode (jx_mb 61) 30 = .ok (.bipush 9, 2))) rfl rfl rfl
  · exact fun d lv st M Q x z => jx_k_b2 (jx_fok (by decide +kernel : decode (jx_mb 61) 32 = .ok (.if_icmp .gt 36, 3))) rfl jx_hGt
  · exact fun d st M Q l1 l2 l3 l4 x => jx_ev_st (jx_fok (by decide +kernel : decode (jx_mb 61) 35 = .ok (.aload_n 0, 1))) rfl rfl rfl
  · exact fun d lv st M Q => jx_k_gf (jx_fok (by decide +kernel : decode (jx_mb 61) 36 = .ok (.getfield 55, 3))) rfl rfl rfl
  · exact fun d lv st M Q k hk => jx_k_gf (jx_fok (by decide +kernel : decode (jx_mb 61) 39 = .ok (.getfield 117, 3))) rfl hk rfl
  · exact fun d st M Q l0 l2 l3 l4 x => jx_ev_st (jx_fok (by decide +kernel : decode (jx_mb 61) 42 = .ok (.iload_n 1, 1))) rfl rfl rfl
  · exact fun d st M Q l0 l1 l2 l3 x => jx_ev_st (jx_fok (by decide +kernel : decode (jx_mb 61) 43 = .ok (.iload 4, 2))) rfl rfl rfl
  · exact fun d lv st M Q x z a ha => jx_k_as (jx_fok (by decide +kernel : decode (jx_mb 61) 45 = .ok (.iastore, 1))) ha
  · exact fun d st M Q l0 l1 l2 l4 x => jx_ev_st (jx_fok (by decide +kernel : decode (jx_mb 61) 46 = .ok (.iload_n 3, 1))) rfl rfl rfl
  · exact fun d st M Q l1 l2 l3 l4 x => jx_ev_st (jx_fok (by decide +kernel : decode (jx_mb 61) 47 = .ok (.aload_n 0, 1))) rfl rfl rfl
  · exact fun d lv st M Q => jx_k_gf (jx_fok (by decide +kernel : decode (jx_mb 61) 48 = .ok (.getfield 27, 3))) rfl rfl rfl
  · exact fun d st M Q l1 l2 l3 l4 x => jx_ev_st (jx_fok (by decide +kernel : decode (jx_mb 61) 51 = .ok (.aload_n 0, 1))) rfl rfl rfl
  · exact fun d lv st M Q => jx_k_gf (jx_fok (by decide +kernel : decode (jx_mb 61) 52 = .ok (.getfield 55, 3))) rfl rfl rfl
  · exact fun d st M Q l0 l1 l2 l3 x => jx_ev_st (jx_fok (by decide +kernel : decode (jx_mb 61) 55 = .ok (.iload 4, 2))) rfl rfl rfl
  · exact fun d lv M Q a0 a1 a3 => jx_ev_ci (jx_fok (by decide +kernel : decode (jx_mb 61) 57 = .ok (.invokevirtual 200, 3))) rfl (jx_ccV (As := [.ref a1, .int a0]) (rest := [.int a3]) rfl rfl rfl rfl rfl rfl) (by decide)
  · exact fun d lv st M Q x z => jx_ev_st (jx_fok (by decide +kernel : decode (jx_mb 61) 60 = .ok (.ior, 1))) rfl rfl rfl
  · exact fun d st M Q l0 l1 l2 l3 l4 x => jx_ev_st (jx_fok (by decide +kernel : decode (jx_mb 61) 61 = .ok (.istore_n 3, 1))) rfl rfl rfl
  · exact fun d st M Q l0 l1 l2 l3 x => jx_ev_st (jx_fok (by decide +kernel : decode (jx_mb 61) 62 = .ok (.iinc 4 1, 3))) rfl rfl rfl
  · exact fun d lv st M Q => jx_k_goto (jx_fok (by decide +kernel : decode (jx_mb 61) 65 = .ok (.goto (-37), 3))) rfl
  · exact fun d st M Q l1 l2 l3 l4 x => jx_ev_st (jx_fok (by decide +kernel : decode (jx_mb 61) 68 = .ok (.aload_n 0, 1))) rfl rfl rfl
  · exact fun d lv st M Q => jx_k_gf (jx_fok (by decide +kernel : decode (jx_mb 61) 69 = .ok (.getfield 55, 3))) rfl rfl rfl
  · exact fun d lv st M Q k hk => jx_k_gf (jx_fok (by decide +kernel : decode (jx_mb 61) 72 = .ok (.getfield 117, 3))) rfl hk rfl
  · exact fun d st M Q l0 l2 l3 l4 x => jx_ev_st (jx_fok (by decide +kernel : decode (jx_mb 61) 75 = .ok (.iload_n 1, 1))) rfl rfl rfl
  · exact fun d st M Q l0 l1 l3 l4 x => jx_ev_st (jx_fok (by decide +kernel : decode (jx_mb 61) 76 = .ok (.iload_n 2, 1))) rfl rfl rfl
  · exact fun d lv st M Q x z a ha => jx_k_as (jx_fok (by decide +kernel : decode (jx_mb 61) 77 = .ok (.iastore, 1))) ha
  · exact fun d st M Q l0 l1 l2 l4 x => jx_ev_st (jx_fok (by decide +kernel : decode (jx_mb 61) 78 = .ok (.iload_n 3, 1))) rfl rfl rfl
  · exact fun d lv M Q x => jx_k_ri (jx_fok (by decide +kernel : decode (jx_mb 61) 79 = .ok (.ireturn, 1))) rfl
theorem eX7_sizes_28 (d : Nat) (st : List Value) (M : jx_M) (Q : jx_Po) (l0 l1 l2 l3 : Option Value) (x : Int32) : jx_Ev d 61 28 [l0, l1, l2, l3, some (.int x)] st M Q ↔ jx_Ev d 61 30 [l0, l1, l2, l3, some (.int x)] (.int x :: st) M Q := jx_ev_st (jx_fok (by decide +kernel : decode (jx_mb 61) 28 = .ok (.iload 4, 2))) rfl rfl rfl
theorem kX7_sizes (d : Nat) (M : jx_M) (q : Int32 → jx_M → Prop) (a0 a1 : Value) : jx_I d 61 [a0, a1] M q ↔ jx_Ev d 61 0 [some a0, some a1, none, none, none] [] M (jx_qI q) := Iff.rfl
set_option maxRecDepth 100000 in
theorem eX7_kinds :
  (∀ (d : Nat) (st : List Value) (M : jx_M) (Q : jx_Po) (l1 l2 l3 l4 : Option Value) (x : Nat), jx_Ev d 62 0 [some (.ref x), l1, l2, l3, l4] st M Q ↔ jx_Ev d 62 1 [some (.ref x), l1, l2, l3, l4] (.ref x :: st) M Q) ∧
  (∀ (d : Nat) (lv : List (Option Value)) (st : List Value) (M : jx_M) (Q : jx_Po), jx_Ev d 62 1 lv (.ref 0 :: st) M Q ↔ jx_Ev d 62 4 lv (jx_rv (M 0 6) :: st) M Q) ∧
  (∀ (d : Nat) (st : List Value) (M : jx_M) (Q : jx_Po) (l0 l2 l3 l4 : Option Value) (x : Int32), jx_Ev d 62 4 [l0, some (.int x), l2, l3, l4] st M Q ↔ jx_Ev d 62 5 [l0, some (.int x), l2, l3, l4] (.int x :: st) M Q) ∧
  (∀ (d : Nat) (lv : List (Option Value)) (M : jx_M) (Q : jx_Po) (a0 : Int32) (a1 : Nat) (hk : jx_cl a1 = 1), jx_Ev (d + 1) 62 5 lv [.int a0, .ref a1] M Q ↔ jx_I d 6 [.ref a1, .int a0] M (fun x M => jx_Ev (d + 1) 62 8 lv (.int x :: []) M Q)) ∧
  (∀ (d : Nat) (lv : List (Option Value)) (st : List Value) (M : jx_M) (Q : jx_Po) (x : Int32), jx_Ev d 62 8 lv (.int x :: st) M Q ↔ (if x = 0 then jx_Ev d 62 11 lv st M Q else jx_Ev d 62 13 lv st M Q)) ∧
  (∀ (d : Nat) (lv : List (Option Value)) (st : List Value) (M : jx_M) (Q : jx_Po), jx_Ev d 62 11 lv st M Q ↔ jx_Ev d 62 12 lv (.int (-1) :: st) M Q) ∧
  (∀ (d : Nat) (lv : List (Option Value)) (M : jx_M) (Q : jx_Po) (x : Int32), jx_Ev d 62 12 lv [.int x] M Q ↔ Q [.int x] M) ∧
  (∀ (d : Nat) (st : List Value) (M : jx_M) (Q : jx_Po) (l1 l2 l3 l4 : Option Value) (x : Nat), jx_Ev d 62 13 [some (.ref x), l1, l2, l3, l4] st M Q ↔ jx_Ev d 62 14 [some (.ref x), l1, l2, l3, l4] (.ref x :: st) M Q) ∧
  (∀ (d : Nat) (lv : List (Option Value)) (st : List Value) (M : jx_M) (Q : jx_Po), jx_Ev d 62 14 lv (.ref 0 :: st) M Q ↔ jx_Ev d 62 17 lv (jx_rv (M 0 6) :: st) M Q) ∧
  (∀ (d : Nat) (lv : List (Option Value)) (st : List Value) (M : jx_M) (Q : jx_Po) (k : Nat) (hk : jx_cl k = 1), jx_Ev d 62 17 lv (.ref k :: st) M Q ↔ jx_Ev d 62 20 lv (.ref (k + 3) :: st) M Q) ∧
  (∀ (d : Nat) (st : List Value) (M : jx_M) (Q : jx_Po) (l0 l2 l3 l4 : Option Value) (x : Int32), jx_Ev d 62 20 [l0, some (.int x), l2, l3, l4] st M Q ↔ jx_Ev d 62 21 [l0, some (.int x), l2, l3, l4] (.int x :: st) M Q) ∧
  (∀ (d : Nat) (lv : List (Option Value)) (st : List Value) (M : jx_M) (Q : jx_Po) (x : Int32) (a : Nat) (ha : jx_cl a = 9), jx_Ev d 62 21 lv (.int x :: .ref a :: st) M Q ↔ (vp_in x (jx_sz a) ∧ jx_Ev d 62 22 lv (.int (M a x.toNatClampNeg) :: st) M Q)) ∧
  (∀ (d : Nat) (st : List Value) (M : jx_M) (Q : jx_Po) (l0 l1 l2 l3 l4 : Option Value) (x : Int32), jx_Ev d 62 22 [l0, l1, l2, l3, l4] (.int x :: st) M Q ↔ jx_Ev d 62 23 [l0, l1, some (.int x), l3, l4] st M Q) ∧
  (∀ (d : Nat) (lv : List (Option Value)) (st : List Value) (M : jx_M) (Q : jx_Po), jx_Ev d 62 23 lv st M Q ↔ jx_Ev d 62 24 lv (.int 0 :: st) M Q) ∧
  (∀ (d : Nat) (st : List Value) (M : jx_M) (Q : jx_Po) (l0 l1 l2 l3 l4 : Option Value) (x : Int32), jx_Ev d 62 24 [l0, l1, l2, l3, l4] (.int x :: st) M Q ↔ jx_Ev d 62 25 [l0, l1, l2, some (.int x), l4] st M Q) ∧
  (∀ (d : Nat) (lv : List (Option Value)) (st : List Value) (M : jx_M) (Q : jx_Po), jx_Ev d 62 25 lv st M Q ↔ jx_Ev d 62 26 lv (.int 0 :: st) M Q) ∧
  (∀ (d : Nat) (st : List Value) (M : jx_M) (Q : jx_Po) (l0 l1 l2 l3 l4 : Option Value) (x : Int32), jx_Ev d 62 26 [l0, l1, l2, l3, l4] (.int x :: st) M Q ↔ jx_Ev d 62 28 [l0, l1, l2, l3, some (.int x)] st M Q) ∧
  (∀ (d : Nat) (lv : List (Option Value)) (st : List Value) (M : jx_M) (Q : jx_Po), jx_Ev d 62 30 lv st M Q ↔ jx_Ev d 62 31 lv (.int 2 :: st) M Q) ∧
  (∀ (d : Nat) (lv : List (Option Value)) (st : List Value) (M : jx_M) (Q : jx_Po) (x z : Int32), jx_Ev d 62 31 lv (.int z :: .int x :: st) M Q ↔ (if z < x then jx_Ev d 62 67 lv st M Q else jx_Ev d 62 34 lv st M Q)) ∧
  (∀ (d : Nat) (st : List Value) (M : jx_M) (Q : jx_Po) (l1 l2 l3 l4 : Option Value) (x : Nat), jx_Ev d 62 34 [some (.ref x), l1, l2, l3, l4] st M Q ↔ jx_Ev d 62 35 [some (.ref x), l1, l2, l3, l4] (.ref x :: st) M Q) ∧
  (∀ (d : Nat) (lv : List (Option Value)) (st : List Value) (M : jx_M) (Q : jx_Po), jx_Ev d 62 35 lv (.ref 0 :: st) M Q ↔ jx_Ev d 62 38 lv (jx_rv (M 0 6) :: st) M Q) ∧
  (∀ (d : Nat) (lv : List (Option Value)) (st : List Value) (M : jx_M) (Q : jx_Po) (k : Nat) (hk : jx_cl k = 1), jx_Ev d 62 38 lv (.ref k :: st) M Q ↔ jx_Ev d 62 41 lv (.ref (k + 3) :: st) M Q) ∧
  (∀ (d : Nat) (st : List Value) (M : jx_M) (Q : jx_Po) (l0 l2 l3 l4 : Option Value) (x : Int32), jx_Ev d 62 41 [l0, some (.int x), l2, l3, l4] st M Q ↔ jx_Ev d 62 42 [l0, some (.int x), l2, l3, l4] (.int x :: st) M Q) ∧
  (∀ (d : Nat) (st : List Value) (M : jx_M) (Q : jx_Po) (l0 l1 l2 l3 : Option Value) (x : Int32), jx_Ev d 62 42 [l0, l1, l2, l3, some (.int x)] st M Q ↔ jx_Ev d 62 44 [l0, l1, l2, l3, some (.int x)] (.int x :: st) M Q) ∧
  (∀ (d : Nat) (lv : List (Option Value)) (st : List Value) (M : jx_M) (Q : jx_Po) (x z : Int32) (a : Nat) (ha : jx_cl a = 9), jx_Ev d 62 44 lv (.int z :: .int x :: .ref a :: st) M Q ↔ (vp_in x (jx_sz a) ∧ jx_Ev d 62 45 lv st (jx_up M a x.toNatClampNeg z) Q)) ∧
  (∀ (d : Nat) (st : List Value) (M : jx_M) (Q : jx_Po) (l0 l1 l2 l4 : Option Value) (x : Int32), jx_Ev d 62 45 [l0, l1, l2, some (.int x), l4] st M Q ↔ jx_Ev d 62 46 [l0, l1, l2, some (.int x), l4] (.int x :: st) M Q) ∧
  (∀ (d : Nat) (st : List Value) (M : jx_M) (Q : jx_Po) (l1 l2 l3 l4 : Option Value) (x : Nat), jx_Ev d 62 46 [some (.ref x), l1, l2, l3, l4] st M Q ↔ jx_Ev d 62 47 [some (.ref x), l1, l2, l3, l4] (.ref x :: st) M Q) ∧
  (∀ (d : Nat) (lv : List (Option Value)) (st : List Value) (M : jx_M) (Q : jx_Po), jx_Ev d 62 47 lv (.ref 0 :: st) M Q ↔ jx_Ev d 62 50 lv (.ref 3 :: st) M Q) ∧
  (∀ (d : Nat) (st : List Value) (M : jx_M) (Q : jx_Po) (l1 l2 l3 l4 : Option Value) (x : Nat), jx_Ev d 62 50 [some (.ref x), l1, l2, l3, l4] st M Q ↔ jx_Ev d 62 51 [some (.ref x), l1, l2, l3, l4] (.ref x :: st) M Q) ∧
  (∀ (d : Nat) (lv : List (Option Value)) (st : List Value) (M : jx_M) (Q : jx_Po), jx_Ev d 62 51 lv (.ref 0 :: st) M Q ↔ jx_Ev d 62 54 lv (jx_rv (M 0 6) :: st) M Q) ∧
  (∀ (d : Nat) (st : List Value) (M : jx_M) (Q : jx_Po) (l0 l1 l2 l3 : Option Value) (x : Int32), jx_Ev d 62 54 [l0, l1, l2, l3, some (.int x)] st M Q ↔ jx_Ev d 62 56 [l0, l1, l2, l3, some (.int x)] (.int x :: st) M Q) ∧
  (∀ (d : Nat) (lv : List (Option Value)) (M : jx_M) (Q : jx_Po) (a0 : Int32) (a1 : Nat) (a3 : Int32), jx_Ev (d + 1) 62 56 lv [.int a0, .ref a1, .ref 3, .int a3] M Q ↔ jx_I d 19 [.ref 3, .ref a1, .int a0] M (fun x M => jx_Ev (d + 1) 62 59 lv (.int x :: [.int a3]) M Q)) ∧
  (∀ (d : Nat) (lv : List (Option Value)) (st : List Value) (M : jx_M) (Q : jx_Po) (x z : Int32), jx_Ev d 62 59 lv (.int z :: .int x :: st) M Q ↔ jx_Ev d 62 60 lv (.int (x ||| z) :: st) M Q) ∧
  (∀ (d : Nat) (st : List Value) (M : jx_M) (Q : jx_Po) (l0 l1 l2 l3 l4 : Option Value) (x : Int32), jx_Ev d 62 60 [l0, l1, l2, l3, l4] (.int x :: st) M Q ↔ jx_Ev d 62 61 [l0, l1, l2, some (.int x), l4] st M Q) ∧
  (∀ (d : Nat) (st : List Value) (M : jx_M) (Q : jx_Po) (l0 l1 l2 l3 : Option Value) (x : Int32), jx_Ev d 62 61 [l0, l1, l2, l3, some (.int x)] st M Q ↔ jx_Ev d 62 64 [l0, l1, l2, l3, some (.int (x + 1))] st M Q) ∧
  (∀ (d : Nat) (lv : List (Option Value)) (st : List Value) (M : jx_M) (Q : jx_Po), jx_Ev d 62 64 lv st M Q ↔ jx_Ev d 62 28 lv st M Q) ∧
  (∀ (d : Nat) (st : List Value) (M : jx_M) (Q : jx_Po) (l1 l2 l3 l4 : Option Value) (x : Nat), jx_Ev d 62 67 [some (.ref x), l1, l2, l3, l4] st M Q ↔ jx_Ev d 62 68 [some (.ref x), l1, l2, l3, l4] (.ref x :: st) M Q) ∧
  (∀ (d : Nat) (lv : List (Option Value)) (st : List Value) (M : jx_M) (Q : jx_Po), jx_Ev d 62 68 lv (.ref 0 :: st) M Q ↔ jx_Ev d 62 71 lv (jx_rv (M 0 6) :: st) M Q) ∧
  (∀ (d : Nat) (lv : List (Option Value)) (st : List Value) (M : jx_M) (Q : jx_Po) (k : Nat) (hk : jx_cl k = 1), jx_Ev d 62 71 lv (.ref k :: st) M Q ↔ jx_Ev d 62 74 lv (.ref (k + 3) :: st) M Q) ∧
  (∀ (d : Nat) (st : List Value) (M : jx_M) (Q : jx_Po) (l0 l2 l3 l4 : Option Value) (x : Int32), jx_Ev d 62 74 [l0, some (.int x), l2, l3, l4] st M Q ↔ jx_Ev d 62 75 [l0, some (.int x), l2, l3, l4] (.int x :: st) M Q) ∧
  (∀ (d : Nat) (st : List Value) (M : jx_M) (Q : jx_Po) (l0 l1 l3 l4 : Option Value) (x : Int32), jx_Ev d 62 75 [l0, l1, some (.int x), l3, l4] st M Q ↔ jx_Ev d 62 76 [l0, l1, some (.int x), l3, l4] (.int x :: st) M Q) ∧
  (∀ (d : Nat) (lv : List (Option Value)) (st : List Value) (M : jx_M) (Q : jx_Po) (x z : Int32) (a : Nat) (ha : jx_cl a = 9), jx_Ev d 62 76 lv (.int z :: .int x :: .ref a :: st) M Q ↔ (vp_in x (jx_sz a) ∧ jx_Ev d 62 77 lv st (jx_up M a x.toNatClampNeg z) Q)) ∧
  (∀ (d : Nat) (st : List Value) (M : jx_M) (Q : jx_Po) (l0 l1 l2 l4 : Option Value) (x : Int32), jx_Ev d 62 77 [l0, l1, l2, some (.int x), l4] st M Q ↔ jx_Ev d 62 78 [l0, l1, l2, some (.int x), l4] (.int x :: st) M Q) ∧
  (∀ (d : Nat) (lv : List (Option Value)) (M : jx_M) (Q : jx_Po) (x : Int32), jx_Ev d 62 78 lv [.int x] M Q ↔ Q [.int x] M) := by
  refine ⟨?_, ?_, ?_, ?_, ?_, ?_, ?_, ?_, ?_, ?_, ?_, ?_, ?_, ?_, ?_, ?_, ?_, ?_, ?_, ?_, ?_, ?_, ?_, ?_, ?_, ?_, ?_, ?_, ?_, ?_, ?_, ?_, ?_, ?_, ?_, ?_, ?_, ?_, ?_, ?_, ?_, ?_, ?_, ?_⟩
  · exact fun d st M Q l1 l2 l3 l4 x => jx_ev_st (jx_fok (by decide +kernel : decode (jx_mb 62) 0 = .ok (.aload_n 0, 1))) rfl rfl rfl
  · exact fun d lv st M Q => jx_k_gf (jx_fok (by decide +kernel : decode (jx_mb 62) 1 = .ok (.getfield 55, 3))) rfl rfl rfl
  · exact fun d st M Q l0 l2 l3 l4 x => jx_ev_st (jx_fok (by decide +kernel : decode (jx_mb 62) 4 = .ok (.iload_n 1, 1))) rfl rfl rfl
  · exact fun d lv M Q a0 a1 hk => jx_ev_ci (jx_fok (by decide +kernel : decode (jx_mb 62) 5 = .ok (.invokevirtual 111, 3))) rfl (jx_ccV (As := [.int a0]) (rest := []) rfl rfl rfl hk rfl rfl) (by decide)
  · exact fun d lv st M Q x => jx_k_b1n (jx_fok (by decide +kernel : decode (jx_mb 62) 8 = .ok (.ifCond .ne 5, 3))) rfl jx_hNe
  · exact fun d lv st M Q => jx_ev_st (jx_fok (by decide +kernel : decode (jx_mb 62) 11 = .ok (.iconst (-1), 1))) rfl rfl rfl
  · exact fun d lv M Q x => jx_k_ri (jx_fok (by decide +kernel : decode (jx_mb 62) 12 = .ok (.ireturn, 1))) rfl
  · exact fun d st M Q l1 l2 l3 l4 x => jx_ev_st (jx_fok (by decide +kernel : decode (jx_mb 62) 13 = .ok (.aload_n 0, 1))) rfl rfl rfl
  · exact fun d lv st M Q => jx_k_gf (jx_fok (by decide +kernel : decode (jx_mb 62) 14 = .ok (.getfield 55, 3))) rfl rfl rfl
  · exact fun d lv st M Q k hk => jx_k_gf (jx_fok (by decide +kernel : decode (jx_mb 62) 17 = .ok (.getfield 114, 3))) rfl hk rfl
  · exact fun d st M Q l0 l2 l3 l4 x => jx_ev_st (jx_fok (by decide +kernel : decode (jx_mb 62) 20 = .ok (.iload_n 1, 1))) rfl rfl rfl
  · exact fun d lv st M Q x a ha => jx_k_al (jx_fok (by decide +kernel : decode (jx_mb 62) 21 = .ok (.iaload, 1))) ha
  · exact fun d st M Q l0 l1 l2 l3 l4 x => jx_ev_st (jx_fok (by decide +kernel : decode (jx_mb 62) 22 = .ok (.istore_n 2, 1))) rfl rfl rfl
  · exact fun d lv st M Q => jx_ev_st (jx_fok (by decide +kernel : decode (jx_mb 62) 23 = .ok (.iconst 0, 1))) rfl rfl rfl
  · exact fun d st M Q l0 l1 l2 l3 l4 x => jx_ev_st (jx_fok (by decide +kernel : decode (jx_mb 62) 24 = .ok (.istore_n 3, 1))) rfl rfl rfl
  · exact fun d lv st M Q => jx_ev_st (jx_fok (by decide +kernel : decode (jx_mb 62) 25 = .ok (.iconst 0, 1))) rfl rfl rfl
  · exact fun d st M Q l0 l1 l2 l3 l4 x => jx_ev_st (jx_fok (by decide +kernel : decode (jx_mb 62) 26 = .ok (.istore 4, 2))) rfl rfl rfl
  · exact fun d lv st M Q => jx_ev_st (jx_fok (by decide +kernel : decode (jx_mb 62) 30 = .ok (.iconst 2, 1))) rfl rfl rfl
  · exact fun d lv st M Q x z => jx_k_b2 (jx_fok (by decide +kernel : decode (jx_mb 62) 31 = .ok (.if_icmp .gt 36, 3))) rfl jx_hGt
  · exact fun d st M Q l1 l2 l3 l4 x => jx_ev_st (jx_fok (by decide +kernel : decode (jx_mb 62) 34 = .ok (.aload_n 0, 1))) rfl rfl rfl
  · exact fun d lv st M Q => jx_k_gf (jx_fok (by decide +kernel : decode (jx_mb 62) 35 = .ok (.getfield 55, 3))) rfl rfl rfl
  · exact fun d lv st M Q k hk => jx_k_gf (jx_fok (by decide +kernel : decode (jx_mb 62) 38 = .ok (.getfield 114, 3))) rfl hk rfl
  · exact fun d st M Q l0 l2 l3 l4 x => jx_ev_st (jx_fok (by decide +kernel : decode (jx_mb 62) 41 = .ok (.iload_n 1, 1))) rfl rfl rfl
  · exact fun d st M Q l0 l1 l2 l3 x => jx_ev_st (jx_fok (by decide +kernel : decode (jx_mb 62) 42 = .ok (.iload 4, 2))) rfl rfl rfl
  · exact fun d lv st M Q x z a ha => jx_k_as (jx_fok (by decide +kernel : decode (jx_mb 62) 44 = .ok (.iastore, 1))) ha
  · exact fun d st M Q l0 l1 l2 l4 x => jx_ev_st (jx_fok (by decide +kernel : decode (jx_mb 62) 45 = .ok (.iload_n 3, 1))) rfl rfl rfl
  · exact fun d st M Q l1 l2 l3 l4 x => jx_ev_st (jx_fok (by decide +kernel : decode (jx_mb 62) 46 = .ok (.aload_n 0, 1))) rfl rfl rfl
  · exact fun d lv st M Q => jx_k_gf (jx_fok (by decide +kernel : decode (jx_mb 62) 47 = .ok (.getfield 27, 3))) rfl rfl rfl
  · exact fun d st M Q l1 l2 l3 l4 x => jx_ev_st (jx_fok (by decide +kernel : decode (jx_mb 62) 50 = .ok (.aload_n 0, 1))) rfl rfl rfl
  · exact fun d lv st M Q => jx_k_gf (jx_fok (by decide +kernel : decode (jx_mb 62) 51 = .ok (.getfield 55, 3))) rfl rfl rfl
  · exact fun d st M Q l0 l1 l2 l3 x => jx_ev_st (jx_fok (by decide +kernel : decode (jx_mb 62) 54 = .ok (.iload 4, 2))) rfl rfl rfl
  · exact fun d lv M Q a0 a1 a3 => jx_ev_ci (jx_fok (by decide +kernel : decode (jx_mb 62) 56 = .ok (.invokevirtual 200, 3))) rfl (jx_ccV (As := [.ref a1, .int a0]) (rest := [.int a3]) rfl rfl rfl rfl rfl rfl) (by decide)
  · exact fun d lv st M Q x z => jx_ev_st (jx_fok (by decide +kernel : decode (jx_mb 62) 59 = .ok (.ior, 1))) rfl rfl rfl
  · exact fun d st M Q l0 l1 l2 l3 l4 x => jx_ev_st (jx_fok (by decide +kernel : decode (jx_mb 62) 60 = .ok (.istore_n 3, 1))) rfl rfl rfl
  · exact fun d st M Q l0 l1 l2 l3 x => jx_ev_st (jx_fok (by decide +kernel : decode (jx_mb 62) 61 = .ok (.iinc 4 1, 3))) rfl rfl rfl
  · exact fun d lv st M Q => jx_k_goto (jx_fok (by decide +kernel : decode (jx_mb 62) 64 = .ok (.goto (-36), 3))) rfl
  · exact fun d st M Q l1 l2 l3 l4 x => jx_ev_st (jx_fok (by decide +kernel : decode (jx_mb 62) 67 = .ok (.aload_n 0, 1))) rfl rfl rfl
  · exact fun d lv st M Q => jx_k_gf (jx_fok (by decide +kernel : decode (jx_mb 62) 68 = .ok (.getfield 55, 3))) rfl rfl rfl
  · exact fun d lv st M Q k hk => jx_k_gf (jx_fok (by decide +kernel : decode (jx_mb 62) 71 = .ok (.getfield 114, 3))) rfl hk rfl
  · exact fun d st M Q l0 l2 l3 l4 x => jx_ev_st (jx_fok (by decide +kernel : decode (jx_mb 62) 74 = .ok (.iload_n 1, 1))) rfl rfl rfl
  · exact fun d st M Q l0 l1 l3 l4 x => jx_ev_st (jx_fok (by decide +kernel : decode (jx_mb 62) 75 = .ok (.iload_n 2, 1))) rfl rfl rfl
  · exact fun d lv st M Q x z a ha => jx_k_as (jx_fok (by decide +kernel : decode (jx_mb 62) 76 = .ok (.iastore, 1))) ha
  · exact fun d st M Q l0 l1 l2 l4 x => jx_ev_st (jx_fok (by decide +kernel : decode (jx_mb 62) 77 = .ok (.iload_n 3, 1))) rfl rfl rfl
  · exact fun d lv M Q x => jx_k_ri (jx_fok (by decide +kernel : decode (jx_mb 62) 78 = .ok (.ireturn, 1))) rfl
theorem eX7_kinds_28 (d : Nat) (st : List Value) (M : jx_M) (Q : jx_Po) (l0 l1 l2 l3 : Option Value) (x : Int32) : jx_Ev d 62 28 [l0, l1, l2, l3, some (.int x)] st M Q ↔ jx_Ev d 62 30 [l0, l1, l2, l3, some (.int x)] (.int x :: st) M Q := jx_ev_st (jx_fok (by decide +kernel : decode (jx_mb 62) 28 = .ok (.iload 4, 2))) rfl rfl rfl
theorem kX7_kinds (d : Nat) (M : jx_M) (q : Int32 → jx_M → Prop) (a0 a1 : Value) : jx_I d 62 [a0, a1] M q ↔ jx_Ev d 62 0 [some a0, some a1, none, none, none] [] M (jx_qI q) := Iff.rfl
set_option maxRecDepth 100000 in
theorem eX7_damps :
  (∀ (d : Nat) (st : List Value) (M : jx_M) (Q : jx_Po) (l1 l2 l3 : Option Value) (x : Nat), jx_Ev d 63 0 [some (.ref x), l1, l2, l3] st M Q ↔ jx_Ev d 63 1 [some (.ref x), l1, l2, l3] (.ref x :: st) M Q) ∧
  (∀ (d : Nat) (lv : List (Option Value)) (st : List Value) (M : jx_M) (Q : jx_Po), jx_Ev d 63 1 lv (.ref 0 :: st) M Q ↔ jx_Ev d 63 4 lv (jx_rv (M 0 6) :: st) M Q) ∧
  (∀ (d : Nat) (lv : List (Option Value)) (M : jx_M) (Q : jx_Po) (a0 : Nat) (hk : jx_cl a0 = 1), jx_Ev (d + 1) 63 4 lv [.ref a0] M Q ↔ jx_I d 4 [.ref a0] M (fun x M => jx_Ev (d + 1) 63 7 lv (.int x :: []) M Q)) ∧
  (∀ (d : Nat) (lv : List (Option Value)) (st : List Value) (M : jx_M) (Q : jx_Po) (x : Int32), jx_Ev d 63 7 lv (.int x :: st) M Q ↔ (if x = 0 then jx_Ev d 63 10 lv st M Q else jx_Ev d 63 13 lv st M Q)) ∧
  (∀ (d : Nat) (lv : List (Option Value)) (st : List Value) (M : jx_M) (Q : jx_Po), jx_Ev d 63 10 lv st M Q ↔ jx_Ev d 63 12 lv (.int (-3) :: st) M Q) ∧
  (∀ (d : Nat) (lv : List (Option Value)) (M : jx_M) (Q : jx_Po) (x : Int32), jx_Ev d 63 12 lv [.int x] M Q ↔ Q [.int x] M) ∧
  (∀ (d : Nat) (st : List Value) (M : jx_M) (Q : jx_Po) (l1 l2 l3 : Option Value) (x : Nat), jx_Ev d 63 13 [some (.ref x), l1, l2, l3] st M Q ↔ jx_Ev d 63 14 [some (.ref x), l1, l2, l3] (.ref x :: st) M Q) ∧
  (∀ (d : Nat) (lv : List (Option Value)) (st : List Value) (M : jx_M) (Q : jx_Po), jx_Ev d 63 14 lv (.ref 0 :: st) M Q ↔ jx_Ev d 63 17 lv (jx_rv (M 0 6) :: st) M Q) ∧
  (∀ (d : Nat) (lv : List (Option Value)) (st : List Value) (M : jx_M) (Q : jx_Po) (k : Nat) (hk : jx_cl k = 1), jx_Ev d 63 17 lv (.ref k :: st) M Q ↔ jx_Ev d 63 20 lv (.int (M k 7) :: st) M Q) ∧
  (∀ (d : Nat) (st : List Value) (M : jx_M) (Q : jx_Po) (l0 l1 l2 l3 : Option Value) (x : Int32), jx_Ev d 63 20 [l0, l1, l2, l3] (.int x :: st) M Q ↔ jx_Ev d 63 21 [l0, some (.int x), l2, l3] st M Q) ∧
  (∀ (d : Nat) (lv : List (Option Value)) (st : List Value) (M : jx_M) (Q : jx_Po), jx_Ev d 63 21 lv st M Q ↔ jx_Ev d 63 22 lv (.int 0 :: st) M Q) ∧
  (∀ (d : Nat) (st : List Value) (M : jx_M) (Q : jx_Po) (l0 l1 l2 l3 : Option Value) (x : Int32), jx_Ev d 63 22 [l0, l1, l2, l3] (.int x :: st) M Q ↔ jx_Ev d 63 23 [l0, l1, some (.int x), l3] st M Q) ∧
  (∀ (d : Nat) (lv : List (Option Value)) (st : List Value) (M : jx_M) (Q : jx_Po), jx_Ev d 63 23 lv st M Q ↔ jx_Ev d 63 24 lv (.int 0 :: st) M Q) ∧
  (∀ (d : Nat) (st : List Value) (M : jx_M) (Q : jx_Po) (l0 l1 l2 l3 : Option Value) (x : Int32), jx_Ev d 63 24 [l0, l1, l2, l3] (.int x :: st) M Q ↔ jx_Ev d 63 25 [l0, l1, l2, some (.int x)] st M Q) ∧
  (∀ (d : Nat) (lv : List (Option Value)) (st : List Value) (M : jx_M) (Q : jx_Po), jx_Ev d 63 26 lv st M Q ↔ jx_Ev d 63 27 lv (.int 3 :: st) M Q) ∧
  (∀ (d : Nat) (lv : List (Option Value)) (st : List Value) (M : jx_M) (Q : jx_Po) (x z : Int32), jx_Ev d 63 27 lv (.int z :: .int x :: st) M Q ↔ (if z < x then jx_Ev d 63 59 lv st M Q else jx_Ev d 63 30 lv st M Q)) ∧
  (∀ (d : Nat) (st : List Value) (M : jx_M) (Q : jx_Po) (l1 l2 l3 : Option Value) (x : Nat), jx_Ev d 63 30 [some (.ref x), l1, l2, l3] st M Q ↔ jx_Ev d 63 31 [some (.ref x), l1, l2, l3] (.ref x :: st) M Q) ∧
  (∀ (d : Nat) (lv : List (Option Value)) (st : List Value) (M : jx_M) (Q : jx_Po), jx_Ev d 63 31 lv (.ref 0 :: st) M Q ↔ jx_Ev d 63 34 lv (jx_rv (M 0 6) :: st) M Q) ∧
  (∀ (d : Nat) (st : List Value) (M : jx_M) (Q : jx_Po) (l0 l1 l2 : Option Value) (x : Int32), jx_Ev d 63 34 [l0, l1, l2, some (.int x)] st M Q ↔ jx_Ev d 63 35 [l0, l1, l2, some (.int x)] (.int x :: st) M Q) ∧
  (∀ (d : Nat) (lv : List (Option Value)) (st : List Value) (M : jx_M) (Q : jx_Po) (x : Int32) (k : Nat) (hk : jx_cl k = 1), jx_Ev d 63 35 lv (.int x :: .ref k :: st) M Q ↔ jx_Ev d 63 38 lv st (jx_up M k 7 x) Q) ∧
  (∀ (d : Nat) (st : List Value) (M : jx_M) (Q : jx_Po) (l0 l1 l3 : Option Value) (x : Int32), jx_Ev d 63 38 [l0, l1, some (.int x), l3] st M Q ↔ jx_Ev d 63 39 [l0, l1, some (.int x), l3] (.int x :: st) M Q) ∧
  (∀ (d : Nat) (st : List Value) (M : jx_M) (Q : jx_Po) (l1 l2 l3 : Option Value) (x : Nat), jx_Ev d 63 39 [some (.ref x), l1, l2, l3] st M Q ↔ jx_Ev d 63 40 [some (.ref x), l1, l2, l3] (.ref x :: st) M Q) ∧
  (∀ (d : Nat) (lv : List (Option Value)) (st : List Value) (M : jx_M) (Q : jx_Po), jx_Ev d 63 40 lv (.ref 0 :: st) M Q ↔ jx_Ev d 63 43 lv (.ref 3 :: st) M Q) ∧
  (∀ (d : Nat) (st : List Value) (M : jx_M) (Q : jx_Po) (l1 l2 l3 : Option Value) (x : Nat), jx_Ev d 63 43 [some (.ref x), l1, l2, l3] st M Q ↔ jx_Ev d 63 44 [some (.ref x), l1, l2, l3] (.ref x :: st) M Q) ∧
  (∀ (d : Nat) (lv : List (Option Value)) (st : List Value) (M : jx_M) (Q : jx_Po), jx_Ev d 63 44 lv (.ref 0 :: st) M Q ↔ jx_Ev d 63 47 lv (jx_rv (M 0 6) :: st) M Q) ∧
  (∀ (d : Nat) (st : List Value) (M : jx_M) (Q : jx_Po) (l0 l1 l2 : Option Value) (x : Int32), jx_Ev d 63 47 [l0, l1, l2, some (.int x)] st M Q ↔ jx_Ev d 63 48 [l0, l1, l2, some (.int x)] (.int x :: st) M Q) ∧
  (∀ (d : Nat) (lv : List (Option Value)) (M : jx_M) (Q : jx_Po) (a0 : Int32) (a1 : Nat) (a3 : Int32), jx_Ev (d + 1) 63 48 lv [.int a0, .ref a1, .ref 3, .int a3] M Q ↔ jx_I d 19 [.ref 3, .ref a1, .int a0] M (fun x M => jx_Ev (d + 1) 63 51 lv (.int x :: [.int a3]) M Q)) ∧
  (∀ (d : Nat) (lv : List (Option Value)) (st : List Value) (M : jx_M) (Q : jx_Po) (x z : Int32), jx_Ev d 63 51 lv (.int z :: .int x :: st) M Q ↔ jx_Ev d 63 52 lv (.int (x ||| z) :: st) M Q) ∧
  (∀ (d : Nat) (st : List Value) (M : jx_M) (Q : jx_Po) (l0 l1 l2 l3 : Option Value) (x : Int32), jx_Ev d 63 52 [l0, l1, l2, l3] (.int x :: st) M Q ↔ jx_Ev d 63 53 [l0, l1, some (.int x), l3] st M Q) ∧
  (∀ (d : Nat) (st : List Value) (M : jx_M) (Q : jx_Po) (l0 l1 l2 : Option Value) (x : Int32), jx_Ev d 63 53 [l0, l1, l2, some (.int x)] st M Q ↔ jx_Ev d 63 56 [l0, l1, l2, some (.int (x + 1))] st M Q) ∧
  (∀ (d : Nat) (lv : List (Option Value)) (st : List Value) (M : jx_M) (Q : jx_Po), jx_Ev d 63 56 lv st M Q ↔ jx_Ev d 63 25 lv st M Q) ∧
  (∀ (d : Nat) (st : List Value) (M : jx_M) (Q : jx_Po) (l1 l2 l3 : Option Value) (x : Nat), jx_Ev d 63 59 [some (.ref x), l1, l2, l3] st M Q ↔ jx_Ev d 63 60 [some (.ref x), l1, l2, l3] (.ref x :: st) M Q) ∧
  (∀ (d : Nat) (lv : List (Option Value)) (st : List Value) (M : jx_M) (Q : jx_Po), jx_Ev d 63 60 lv (.ref 0 :: st) M Q ↔ jx_Ev d 63 63 lv (jx_rv (M 0 6) :: st) M Q) ∧
  (∀ (d : Nat) (st : List Value) (M : jx_M) (Q : jx_Po) (l0 l2 l3 : Option Value) (x : Int32), jx_Ev d 63 63 [l0, some (.int x), l2, l3] st M Q ↔ jx_Ev d 63 64 [l0, some (.int x), l2, l3] (.int x :: st) M Q) ∧
  (∀ (d : Nat) (lv : List (Option Value)) (st : List Value) (M : jx_M) (Q : jx_Po) (x : Int32) (k : Nat) (hk : jx_cl k = 1), jx_Ev d 63 64 lv (.int x :: .ref k :: st) M Q ↔ jx_Ev d 63 67 lv st (jx_up M k 7 x) Q) ∧
  (∀ (d : Nat) (st : List Value) (M : jx_M) (Q : jx_Po) (l0 l1 l3 : Option Value) (x : Int32), jx_Ev d 63 67 [l0, l1, some (.int x), l3] st M Q ↔ jx_Ev d 63 68 [l0, l1, some (.int x), l3] (.int x :: st) M Q) ∧
  (∀ (d : Nat) (lv : List (Option Value)) (M : jx_M) (Q : jx_Po) (x : Int32), jx_Ev d 63 68 lv [.int x] M Q ↔ Q [.int x] M) := by
  refine ⟨?_, ?_, ?_, ?_, ?_, ?_, ?_, ?_, ?_, ?_, ?_, ?_, ?_, ?_, ?_, ?_, ?_, ?_, ?_, ?_, ?_, ?_, ?_, ?_, ?_, ?_, ?_, ?_, ?_, ?_, ?_, ?_, ?_, ?_, ?_, ?_, ?_⟩
  · exact fun d st M Q l1 l2 l3 x => jx_ev_st (jx_fok (by decide +kernel : decode (jx_mb 63) 0 = .ok (.aload_n 0, 1))) rfl rfl rfl
  · exact fun d lv st M Q => jx_k_gf (jx_fok (by decide +kernel : decode (jx_mb 63) 1 = .ok (.getfield 55, 3))) rfl rfl rfl
  · exact fun d lv M Q a0 hk => jx_ev_ci (jx_fok (by decide +kernel : decode (jx_mb 63) 4 = .ok (.invokevirtual 123, 3))) rfl (jx_ccV (As := []) (rest := []) rfl rfl rfl hk rfl rfl) (by decide)
  · exact fun d lv st M Q x => jx_k_b1n (jx_fok (by decide +kernel : decode (jx_mb 63) 7 = .ok (.ifCond .ne 6, 3))) rfl jx_hNe
  · exact fun d lv st M Q => jx_ev_st (jx_fok (by decide +kernel : decode (jx_mb 63) 10 = .ok (.bipush (-3), 2))) rfl rfl rfl
  · exact fun d lv M Q x => jx_k_ri (jx_fok (by decide +kernel : decode (jx_mb 63) 12 = .ok (.ireturn, 1))) rfl
  · exact fun d st M Q l1 l2 l3 x => jx_ev_st (jx_fok (by decide +kernel : decode (jx_mb 63) 13 = .ok (.aload_n 0, 1))) rfl rfl rfl
  · exact fun d lv st M Q => jx_k_gf (jx_fok (by decide +kernel : decode (jx_mb 63) 14 = .ok (.getfield 55, 3))) rfl rfl rfl
  · exact fun d lv st M Q k hk => jx_k_gf (jx_fok (by decide +kernel : decode (jx_mb 63) 17 = .ok (.getfield 127, 3))) rfl hk rfl
  · exact fun d st M Q l0 l1 l2 l3 x => jx_ev_st (jx_fok (by decide +kernel : decode (jx_mb 63) 20 = .ok (.istore_n 1, 1))) rfl rfl rfl
  · exact fun d lv st M Q => jx_ev_st (jx_fok (by decide +kernel : decode (jx_mb 63) 21 = .ok (.iconst 0, 1))) rfl rfl rfl
  · exact fun d st M Q l0 l1 l2 l3 x => jx_ev_st (jx_fok (by decide +kernel : decode (jx_mb 63) 22 = .ok (.istore_n 2, 1))) rfl rfl rfl
  · exact fun d lv st M Q => jx_ev_st (jx_fok (by decide +kernel : decode (jx_mb 63) 23 = .ok (.iconst 0, 1))) rfl rfl rfl
  · exact fun d st M Q l0 l1 l2 l3 x => jx_ev_st (jx_fok (by decide +kernel : decode (jx_mb 63) 24 = .ok (.istore_n 3, 1))) rfl rfl rfl
  · exact fun d lv st M Q => jx_ev_st (jx_fok (by decide +kernel : decode (jx_mb 63) 26 = .ok (.iconst 3, 1))) rfl rfl rfl
  · exact fun d lv st M Q x z => jx_k_b2 (jx_fok (by decide +kernel : decode (jx_mb 63) 27 = .ok (.if_icmp .gt 32, 3))) rfl jx_hGt
  · exact fun d st M Q l1 l2 l3 x => jx_ev_st (jx_fok (by decide +kernel : decode (jx_mb 63) 30 = .ok (.aload_n 0, 1))) rfl rfl rfl
  · exact fun d lv st M Q => jx_k_gf (jx_fok (by decide +kernel : decode (jx_mb 63) 31 = .ok (.getfield 55, 3))) rfl rfl rfl
  · exact fun d st M Q l0 l1 l2 x => jx_ev_st (jx_fok (by decide +kernel : decode (jx_mb 63) 34 = .ok (.iload_n 3, 1))) rfl rfl rfl
  · exact fun d lv st M Q x k hk => jx_k_pf0 (jx_fok (by decide +kernel : decode (jx_mb 63) 35 = .ok (.putfield 127, 3))) rfl hk rfl
  · exact fun d st M Q l0 l1 l3 x => jx_ev_st (jx_fok (by decide +kernel : decode (jx_mb 63) 38 = .ok (.iload_n 2, 1))) rfl rfl rfl
  · exact fun d st M Q l1 l2 l3 x => jx_ev_st (jx_fok (by decide +kernel : decode (jx_mb 63) 39 = .ok (.aload_n 0, 1))) rfl rfl rfl
  · exact fun d lv st M Q => jx_k_gf (jx_fok (by decide +kernel : decode (jx_mb 63) 40 = .ok (.getfield 27, 3))) rfl rfl rfl
  · exact fun d st M Q l1 l2 l3 x => jx_ev_st (jx_fok (by decide +kernel : decode (jx_mb 63) 43 = .ok (.aload_n 0, 1))) rfl rfl rfl
  · exact fun d lv st M Q => jx_k_gf (jx_fok (by decide +kernel : decode (jx_mb 63) 44 = .ok (.getfield 55, 3))) rfl rfl rfl
  · exact fun d st M Q l0 l1 l2 x => jx_ev_st (jx_fok (by decide +kernel : decode (jx_mb 63) 47 = .ok (.iload_n 3, 1))) rfl rfl rfl
  · exact fun d lv M Q a0 a1 a3 => jx_ev_ci (jx_fok (by decide +kernel : decode (jx_mb 63) 48 = .ok (.invokevirtual 200, 3))) rfl (jx_ccV (As := [.ref a1, .int a0]) (rest := [.int a3]) rfl rfl rfl rfl rfl rfl) (by decide)
  · exact fun d lv st M Q x z => jx_ev_st (jx_fok (by decide +kernel : decode (jx_mb 63) 51 = .ok (.ior, 1))) rfl rfl rfl
  · exact fun d st M Q l0 l1 l2 l3 x => jx_ev_st (jx_fok (by decide +kernel : decode (jx_mb 63) 52 = .ok (.istore_n 2, 1))) rfl rfl rfl
  · exact fun d st M Q l0 l1 l2 x => jx_ev_st (jx_fok (by decide +kernel : decode (jx_mb 63) 53 = .ok (.iinc 3 1, 3))) rfl rfl rfl
  · exact fun d lv st M Q => jx_k_goto (jx_fok (by decide +kernel : decode (jx_mb 63) 56 = .ok (.goto (-31), 3))) rfl
  · exact fun d st M Q l1 l2 l3 x => jx_ev_st (jx_fok (by decide +kernel : decode (jx_mb 63) 59 = .ok (.aload_n 0, 1))) rfl rfl rfl
  · exact fun d lv st M Q => jx_k_gf (jx_fok (by decide +kernel : decode (jx_mb 63) 60 = .ok (.getfield 55, 3))) rfl rfl rfl
  · exact fun d st M Q l0 l2 l3 x => jx_ev_st (jx_fok (by decide +kernel : decode (jx_mb 63) 63 = .ok (.iload_n 1, 1))) rfl rfl rfl
  · exact fun d lv st M Q x k hk => jx_k_pf0 (jx_fok (by decide +kernel : decode (jx_mb 63) 64 = .ok (.putfield 127, 3))) rfl hk rfl
  · exact fun d st M Q l0 l1 l3 x => jx_ev_st (jx_fok (by decide +kernel : decode (jx_mb 63) 67 = .ok (.iload_n 2, 1))) rfl rfl rfl
  · exact fun d lv M Q x => jx_k_ri (jx_fok (by decide +kernel : decode (jx_mb 63) 68 = .ok (.ireturn, 1))) rfl
theorem eX7_damps_25 (d : Nat) (st : List Value) (M : jx_M) (Q : jx_Po) (l0 l1 l2 : Option Value) (x : Int32) : jx_Ev d 63 25 [l0, l1, l2, some (.int x)] st M Q ↔ jx_Ev d 63 26 [l0, l1, l2, some (.int x)] (.int x :: st) M Q := jx_ev_st (jx_fok (by decide +kernel : decode (jx_mb 63) 25 = .ok (.iload_n 3, 1))) rfl rfl rfl
theorem kX7_damps (d : Nat) (M : jx_M) (q : Int32 → jx_M → Prop) (a0 : Value) : jx_I d 63 [a0] M q ↔ jx_Ev d 63 0 [some a0, none, none, none] [] M (jx_qI q) := Iff.rfl
set_option maxRecDepth 100000 in
theorem eX7_odds :
  (∀ (d : Nat) (st : List Value) (M : jx_M) (Q : jx_Po) (l1 l2 l3 l4 l5 l6 l7 : Option Value) (x : Nat), jx_Ev d 64 0 [some (.ref x), l1, l2, l3, l4, l5, l6, l7] st M Q ↔ jx_Ev d 64 1 [some (.ref x), l1, l2, l3, l4, l5, l6, l7] (.ref x :: st) M Q) ∧
  (∀ (d : Nat) (lv : List (Option Value)) (st : List Value) (M : jx_M) (Q : jx_Po), jx_Ev d 64 1 lv (.ref 0 :: st) M Q ↔ jx_Ev d 64 4 lv (jx_rv (M 0 6) :: st) M Q) ∧
  (∀ (d : Nat) (st : List Value) (M : jx_M) (Q : jx_Po) (l0 l2 l3 l4 l5 l6 l7 : Option Value) (x : Int32), jx_Ev d 64 4 [l0, some (.int x), l2, l3, l4, l5, l6, l7] st M Q ↔ jx_Ev d 64 5 [l0, some (.int x), l2, l3, l4, l5, l6, l7] (.int x :: st) M Q) ∧
  (∀ (d : Nat) (lv : List (Option Value)) (M : jx_M) (Q : jx_Po) (a0 : Int32) (a1 : Nat) (hk : jx_cl a1 = 1), jx_Ev (d + 1) 64 5 lv [.int a0, .ref a1] M Q ↔ jx_I d 6 [.ref a1, .int a0] M (fun x M => jx_Ev (d + 1) 64 8 lv (.int x :: []) M Q)) ∧
  (∀ (d : Nat) (lv : List (Option Value)) (st : List Value) (M : jx_M) (Q : jx_Po) (x : Int32), jx_Ev d 64 8 lv (.int x :: st) M Q ↔ (if x = 0 then jx_Ev d 64 27 lv st M Q else jx_Ev d 64 11 lv st M Q)) ∧
  (∀ (d : Nat) (st : List Value) (M : jx_M) (Q : jx_Po) (l0 l1 l3 l4 l5 l6 l7 : Option Value) (x : Int32), jx_Ev d 64 11 [l0, l1, some (.int x), l3, l4, l5, l6, l7] st M Q ↔ jx_Ev d 64 12 [l0, l1, some (.int x), l3, l4, l5, l6, l7] (.int x :: st) M Q) ∧
  (∀ (d : Nat) (lv : List (Option Value)) (M : jx_M) (Q : jx_Po) (a0 : Int32), jx_Ev (d + 1) 64 12 lv [.int a0] M Q ↔ jx_I d 82 [.int a0] M (fun x M => jx_Ev (d + 1) 64 15 lv (.int x :: []) M Q)) ∧
  (∀ (d : Nat) (lv : List (Option Value)) (st : List Value) (M : jx_M) (Q : jx_Po) (x : Int32), jx_Ev d 64 15 lv (.int x :: st) M Q ↔ (if x = 0 then jx_Ev d 64 27 lv st M Q else jx_Ev d 64 18 lv st M Q)) ∧
  (∀ (d : Nat) (st : List Value) (M : jx_M) (Q : jx_Po) (l0 l1 l2 l4 l5 l6 l7 : Option Value) (x : Int32), jx_Ev d 64 18 [l0, l1, l2, some (.int x), l4, l5, l6, l7] st M Q ↔ jx_Ev d 64 19 [l0, l1, l2, some (.int x), l4, l5, l6, l7] (.int x :: st) M Q) ∧
  (∀ (d : Nat) (lv : List (Option Value)) (st : List Value) (M : jx_M) (Q : jx_Po) (x : Int32), jx_Ev d 64 19 lv (.int x :: st) M Q ↔ (if x < 0 then jx_Ev d 64 27 lv st M Q else jx_Ev d 64 22 lv st M Q)) ∧
  (∀ (d : Nat) (st : List Value) (M : jx_M) (Q : jx_Po) (l0 l1 l2 l4 l5 l6 l7 : Option Value) (x : Int32), jx_Ev d 64 22 [l0, l1, l2, some (.int x), l4, l5, l6, l7] st M Q ↔ jx_Ev d 64 23 [l0, l1, l2, some (.int x), l4, l5, l6, l7] (.int x :: st) M Q) ∧
  (∀ (d : Nat) (lv : List (Option Value)) (st : List Value) (M : jx_M) (Q : jx_Po), jx_Ev d 64 23 lv st M Q ↔ jx_Ev d 64 24 lv (.int 1 :: st) M Q) ∧
  (∀ (d : Nat) (lv : List (Option Value)) (st : List Value) (M : jx_M) (Q : jx_Po) (x z : Int32), jx_Ev d 64 24 lv (.int z :: .int x :: st) M Q ↔ (if x ≤ z then jx_Ev d 64 31 lv st M Q else jx_Ev d 64 27 lv st M Q)) ∧
  (∀ (d : Nat) (lv : List (Option Value)) (st : List Value) (M : jx_M) (Q : jx_Po), jx_Ev d 64 27 lv st M Q ↔ jx_Ev d 64 30 lv (.long (-9223372036854775808) :: st) M Q) ∧
  (∀ (d : Nat) (lv : List (Option Value)) (M : jx_M) (Q : jx_Po) (x : Int64), jx_Ev d 64 30 lv [.long x] M Q ↔ Q [.long x] M) ∧
  (∀ (d : Nat) (st : List Value) (M : jx_M) (Q : jx_Po) (l1 l2 l3 l4 l5 l6 l7 : Option Value) (x : Nat), jx_Ev d 64 31 [some (.ref x), l1, l2, l3, l4, l5, l6, l7] st M Q ↔ jx_Ev d 64 32 [some (.ref x), l1, l2, l3, l4, l5, l6, l7] (.ref x :: st) M Q) ∧
  (∀ (d : Nat) (lv : List (Option Value)) (st : List Value) (M : jx_M) (Q : jx_Po), jx_Ev d 64 32 lv (.ref 0 :: st) M Q ↔ jx_Ev d 64 35 lv (jx_rv (M 0 6) :: st) M Q) ∧
  (∀ (d : Nat) (lv : List (Option Value)) (M : jx_M) (Q : jx_Po) (a0 : Nat) (hk : jx_cl a0 = 1), jx_Ev (d + 1) 64 35 lv [.ref a0] M Q ↔ jx_I d 9 [.ref a0] M (fun x M => jx_Ev (d + 1) 64 38 lv (.int x :: []) M Q)) ∧
  (∀ (d : Nat) (lv : List (Option Value)) (st : List Value) (M : jx_M) (Q : jx_Po), jx_Ev d 64 38 lv st M Q ↔ jx_Ev d 64 39 lv (.int 1 :: st) M Q) ∧
  (∀ (d : Nat) (lv : List (Option Value)) (st : List Value) (M : jx_M) (Q : jx_Po) (x z : Int32), jx_Ev d 64 39 lv (.int z :: .int x :: st) M Q ↔ jx_Ev d 64 40 lv (.int (x + z) :: st) M Q) ∧
  (∀ (d : Nat) (st : List Value) (M : jx_M) (Q : jx_Po) (l0 l1 l2 l3 l4 l5 l6 l7 : Option Value) (x : Int32), jx_Ev d 64 40 [l0, l1, l2, l3, l4, l5, l6, l7] (.int x :: st) M Q ↔ jx_Ev d 64 42 [l0, l1, l2, l3, some (.int x), l5, l6, l7] st M Q) ∧
  (∀ (d : Nat) (lv : List (Option Value)) (st : List Value) (M : jx_M) (Q : jx_Po), jx_Ev d 64 42 lv st M Q ↔ jx_Ev d 64 43 lv (.int 0 :: st) M Q) ∧
  (∀ (d : Nat) (st : List Value) (M : jx_M) (Q : jx_Po) (l0 l1 l2 l3 l4 l5 l6 l7 : Option Value) (x : Int32), jx_Ev d 64 43 [l0, l1, l2, l3, l4, l5, l6, l7] (.int x :: st) M Q ↔ jx_Ev d 64 45 [l0, l1, l2, l3, l4, some (.int x), l6, l7] st M Q) ∧
  (∀ (d : Nat) (st : List Value) (M : jx_M) (Q : jx_Po) (l0 l1 l2 l3 l5 l6 l7 : Option Value) (x : Int32), jx_Ev d 64 45 [l0, l1, l2, l3, some (.int x), l5, l6, l7] st M Q ↔ jx_Ev d 64 47 [l0, l1, l2, l3, some (.int x), l5, l6, l7] (.int x :: st) M Q) ∧
  (∀ (d : Nat) (st : List Value) (M : jx_M) (Q : jx_Po) (l0 l1 l2 l3 l4 l5 l6 l7 : Option Value) (x : Int32), jx_Ev d 64 47 [l0, l1, l2, l3, l4, l5, l6, l7] (.int x :: st) M Q ↔ jx_Ev d 64 49 [l0, l1, l2, l3, l4, l5, some (.int x), l7] st M Q) ∧
  (∀ (d : Nat) (lv : List (Option Value)) (st : List Value) (M : jx_M) (Q : jx_Po), jx_Ev d 64 49 lv st M Q ↔ jx_Ev d 64 50 lv (.int 0 :: st) M Q) ∧
  (∀ (d : Nat) (st : List Value) (M : jx_M) (Q : jx_Po) (l0 l1 l2 l3 l4 l5 l6 l7 : Option Value) (x : Int32), jx_Ev d 64 50 [l0, l1, l2, l3, l4, l5, l6, l7] (.int x :: st) M Q ↔ jx_Ev d 64 52 [l0, l1, l2, l3, l4, l5, l6, some (.int x)] st M Q) ∧
  (∀ (d : Nat) (st : List Value) (M : jx_M) (Q : jx_Po) (l0 l1 l2 l3 l5 l6 l7 : Option Value) (x : Int32), jx_Ev d 64 54 [l0, l1, l2, l3, some (.int x), l5, l6, l7] st M Q ↔ jx_Ev d 64 56 [l0, l1, l2, l3, some (.int x), l5, l6, l7] (.int x :: st) M Q) ∧
  (∀ (d : Nat) (lv : List (Option Value)) (st : List Value) (M : jx_M) (Q : jx_Po) (x z : Int32), jx_Ev d 64 56 lv (.int z :: .int x :: st) M Q ↔ (if z ≤ x then jx_Ev d 64 84 lv st M Q else jx_Ev d 64 59 lv st M Q)) ∧
  (∀ (d : Nat) (st : List Value) (M : jx_M) (Q : jx_Po) (l1 l2 l3 l4 l5 l6 l7 : Option Value) (x : Nat), jx_Ev d 64 59 [some (.ref x), l1, l2, l3, l4, l5, l6, l7] st M Q ↔ jx_Ev d 64 60 [some (.ref x), l1, l2, l3, l4, l5, l6, l7] (.ref x :: st) M Q) ∧
  (∀ (d : Nat) (lv : List (Option Value)) (st : List Value) (M : jx_M) (Q : jx_Po), jx_Ev d 64 60 lv (.ref 0 :: st) M Q ↔ jx_Ev d 64 63 lv (jx_rv (M 0 6) :: st) M Q) ∧
  (∀ (d : Nat) (st : List Value) (M : jx_M) (Q : jx_Po) (l0 l2 l3 l4 l5 l6 l7 : Option Value) (x : Int32), jx_Ev d 64 63 [l0, some (.int x), l2, l3, l4, l5, l6, l7] st M Q ↔ jx_Ev d 64 64 [l0, some (.int x), l2, l3, l4, l5, l6, l7] (.int x :: st) M Q) ∧
  (∀ (d : Nat) (st : List Value) (M : jx_M) (Q : jx_Po) (l0 l1 l3 l4 l5 l6 l7 : Option Value) (x : Int32), jx_Ev d 64 64 [l0, l1, some (.int x), l3, l4, l5, l6, l7] st M Q ↔ jx_Ev d 64 65 [l0, l1, some (.int x), l3, l4, l5, l6, l7] (.int x :: st) M Q) ∧
  (∀ (d : Nat) (st : List Value) (M : jx_M) (Q : jx_Po) (l0 l1 l2 l3 l4 l5 l6 : Option Value) (x : Int32), jx_Ev d 64 65 [l0, l1, l2, l3, l4, l5, l6, some (.int x)] st M Q ↔ jx_Ev d 64 67 [l0, l1, l2, l3, l4, l5, l6, some (.int x)] (.int x :: st) M Q) ∧
  (∀ (d : Nat) (lv : List (Option Value)) (M : jx_M) (Q : jx_Po) (a0 : Int32) (a1 : Int32) (a2 : Int32) (a3 : Nat) (hk : jx_cl a3 = 1), jx_Ev (d + 1) 64 67 lv [.int a0, .int a1, .int a2, .ref a3] M Q ↔ jx_I d 11 [.ref a3, .int a2, .int a1, .int a0] M (fun x M => jx_Ev (d + 1) 64 70 lv (.int x :: []) M Q)) ∧
  (∀ (d : Nat) (lv : List (Option Value)) (st : List Value) (M : jx_M) (Q : jx_Po), jx_Ev d 64 70 lv st M Q ↔ jx_Ev d 64 72 lv (.int (-9) :: st) M Q) ∧
  (∀ (d : Nat) (lv : List (Option Value)) (st : List Value) (M : jx_M) (Q : jx_Po) (x z : Int32), jx_Ev d 64 72 lv (.int z :: .int x :: st) M Q ↔ (if x = z then jx_Ev d 64 78 lv st M Q else jx_Ev d 64 75 lv st M Q)) ∧
  (∀ (d : Nat) (st : List Value) (M : jx_M) (Q : jx_Po) (l0 l1 l2 l3 l4 l6 l7 : Option Value) (x : Int32), jx_Ev d 64 75 [l0, l1, l2, l3, l4, some (.int x), l6, l7] st M Q ↔ jx_Ev d 64 78 [l0, l1, l2, l3, l4, some (.int (x + 1)), l6, l7] st M Q) ∧
  (∀ (d : Nat) (st : List Value) (M : jx_M) (Q : jx_Po) (l0 l1 l2 l3 l4 l5 l6 : Option Value) (x : Int32), jx_Ev d 64 78 [l0, l1, l2, l3, l4, l5, l6, some (.int x)] st M Q ↔ jx_Ev d 64 81 [l0, l1, l2, l3, l4, l5, l6, some (.int (x + 1))] st M Q) ∧
  (∀ (d : Nat) (lv : List (Option Value)) (st : List Value) (M : jx_M) (Q : jx_Po), jx_Ev d 64 81 lv st M Q ↔ jx_Ev d 64 52 lv st M Q) ∧
  (∀ (d : Nat) (lv : List (Option Value)) (st : List Value) (M : jx_M) (Q : jx_Po), jx_Ev d 64 84 lv st M Q ↔ jx_Ev d 64 85 lv (.int 0 :: st) M Q) ∧
  (∀ (d : Nat) (st : List Value) (M : jx_M) (Q : jx_Po) (l0 l1 l2 l3 l4 l5 l6 l7 : Option Value) (x : Int32), jx_Ev d 64 85 [l0, l1, l2, l3, l4, l5, l6, l7] (.int x :: st) M Q ↔ jx_Ev d 64 87 [l0, l1, l2, l3, l4, l5, l6, some (.int x)] st M Q) ∧
  (∀ (d : Nat) (lv : List (Option Value)) (st : List Value) (M : jx_M) (Q : jx_Po), jx_Ev d 64 89 lv st M Q ↔ jx_Ev d 64 90 lv (.int 5 :: st) M Q) ∧
  (∀ (d : Nat) (lv : List (Option Value)) (st : List Value) (M : jx_M) (Q : jx_Po) (x z : Int32), jx_Ev d 64 90 lv (.int z :: .int x :: st) M Q ↔ (if z ≤ x then jx_Ev d 64 125 lv st M Q else jx_Ev d 64 93 lv st M Q)) ∧
  (∀ (d : Nat) (st : List Value) (M : jx_M) (Q : jx_Po) (l0 l1 l2 l3 l4 l6 l7 : Option Value) (x : Int32), jx_Ev d 64 93 [l0, l1, l2, l3, l4, some (.int x), l6, l7] st M Q ↔ jx_Ev d 64 95 [l0, l1, l2, l3, l4, some (.int x), l6, l7] (.int x :: st) M Q) ∧
  (∀ (d : Nat) (lv : List (Option Value)) (st : List Value) (M : jx_M) (Q : jx_Po), jx_Ev d 64 95 lv st M Q ↔ jx_Ev d 64 96 lv (.int 2 :: st) M Q) ∧
  (∀ (d : Nat) (lv : List (Option Value)) (st : List Value) (M : jx_M) (Q : jx_Po) (x z : Int32), jx_Ev d 64 96 lv (.int z :: .int x :: st) M Q ↔ (¬ z = 0 ∧ jx_Ev d 64 97 lv (.int (x - x / z * z) :: st) M Q)) ∧
  (∀ (d : Nat) (lv : List (Option Value)) (st : List Value) (M : jx_M) (Q : jx_Po) (x : Int32), jx_Ev d 64 97 lv (.int x :: st) M Q ↔ (if x = 0 then jx_Ev d 64 100 lv st M Q else jx_Ev d 64 125 lv st M Q)) ∧
  (∀ (d : Nat) (st : List Value) (M : jx_M) (Q : jx_Po) (l0 l1 l2 l3 l4 l5 l7 : Option Value) (x : Int32), jx_Ev d 64 100 [l0, l1, l2, l3, l4, l5, some (.int x), l7] st M Q ↔ jx_Ev d 64 102 [l0, l1, l2, l3, l4, l5, some (.int x), l7] (.int x :: st) M Q) ∧
  (∀ (d : Nat) (lv : List (Option Value)) (st : List Value) (M : jx_M) (Q : jx_Po), jx_Ev d 64 102 lv st M Q ↔ jx_Ev d 64 103 lv (.int 2 :: st) M Q) ∧
  (∀ (d : Nat) (lv : List (Option Value)) (st : List Value) (M : jx_M) (Q : jx_Po) (x z : Int32), jx_Ev d 64 103 lv (.int z :: .int x :: st) M Q ↔ (¬ z = 0 ∧ jx_Ev d 64 104 lv (.int (x - x / z * z) :: st) M Q)) ∧
  (∀ (d : Nat) (lv : List (Option Value)) (st : List Value) (M : jx_M) (Q : jx_Po) (x : Int32), jx_Ev d 64 104 lv (.int x :: st) M Q ↔ (if x = 0 then jx_Ev d 64 107 lv st M Q else jx_Ev d 64 125 lv st M Q)) ∧
  (∀ (d : Nat) (st : List Value) (M : jx_M) (Q : jx_Po) (l0 l1 l2 l3 l4 l6 l7 : Option Value) (x : Int32), jx_Ev d 64 107 [l0, l1, l2, l3, l4, some (.int x), l6, l7] st M Q ↔ jx_Ev d 64 109 [l0, l1, l2, l3, l4, some (.int x), l6, l7] (.int x :: st) M Q) ∧
  (∀ (d : Nat) (lv : List (Option Value)) (st : List Value) (M : jx_M) (Q : jx_Po), jx_Ev d 64 109 lv st M Q ↔ jx_Ev d 64 110 lv (.int 2 :: st) M Q) ∧
  (∀ (d : Nat) (lv : List (Option Value)) (st : List Value) (M : jx_M) (Q : jx_Po) (x z : Int32), jx_Ev d 64 110 lv (.int z :: .int x :: st) M Q ↔ (¬ z = 0 ∧ jx_Ev d 64 111 lv (.int (x / z) :: st) M Q)) ∧
  (∀ (d : Nat) (st : List Value) (M : jx_M) (Q : jx_Po) (l0 l1 l2 l3 l4 l5 l6 l7 : Option Value) (x : Int32), jx_Ev d 64 111 [l0, l1, l2, l3, l4, l5, l6, l7] (.int x :: st) M Q ↔ jx_Ev d 64 113 [l0, l1, l2, l3, l4, some (.int x), l6, l7] st M Q) ∧
  (∀ (d : Nat) (st : List Value) (M : jx_M) (Q : jx_Po) (l0 l1 l2 l3 l4 l5 l7 : Option Value) (x : Int32), jx_Ev d 64 113 [l0, l1, l2, l3, l4, l5, some (.int x), l7] st M Q ↔ jx_Ev d 64 115 [l0, l1, l2, l3, l4, l5, some (.int x), l7] (.int x :: st) M Q) ∧
  (∀ (d : Nat) (lv : List (Option Value)) (st : List Value) (M : jx_M) (Q : jx_Po), jx_Ev d 64 115 lv st M Q ↔ jx_Ev d 64 116 lv (.int 2 :: st) M Q) ∧
  (∀ (d : Nat) (lv : List (Option Value)) (st : List Value) (M : jx_M) (Q : jx_Po) (x z : Int32), jx_Ev d 64 116 lv (.int z :: .int x :: st) M Q ↔ (¬ z = 0 ∧ jx_Ev d 64 117 lv (.int (x / z) :: st) M Q)) ∧
  (∀ (d : Nat) (st : List Value) (M : jx_M) (Q : jx_Po) (l0 l1 l2 l3 l4 l5 l6 l7 : Option Value) (x : Int32), jx_Ev d 64 117 [l0, l1, l2, l3, l4, l5, l6, l7] (.int x :: st) M Q ↔ jx_Ev d 64 119 [l0, l1, l2, l3, l4, l5, some (.int x), l7] st M Q) ∧
  (∀ (d : Nat) (st : List Value) (M : jx_M) (Q : jx_Po) (l0 l1 l2 l3 l4 l5 l6 : Option Value) (x : Int32), jx_Ev d 64 119 [l0, l1, l2, l3, l4, l5, l6, some (.int x)] st M Q ↔ jx_Ev d 64 122 [l0, l1, l2, l3, l4, l5, l6, some (.int (x + 1))] st M Q) ∧
  (∀ (d : Nat) (lv : List (Option Value)) (st : List Value) (M : jx_M) (Q : jx_Po), jx_Ev d 64 122 lv st M Q ↔ jx_Ev d 64 87 lv st M Q) ∧
  (∀ (d : Nat) (st : List Value) (M : jx_M) (Q : jx_Po) (l0 l1 l2 l4 l5 l6 l7 : Option Value) (x : Int32), jx_Ev d 64 125 [l0, l1, l2, some (.int x), l4, l5, l6, l7] st M Q ↔ jx_Ev d 64 126 [l0, l1, l2, some (.int x), l4, l5, l6, l7] (.int x :: st) M Q) ∧
  (∀ (d : Nat) (lv : List (Option Value)) (st : List Value) (M : jx_M) (Q : jx_Po) (x : Int32), jx_Ev d 64 126 lv (.int x :: st) M Q ↔ (if x = 0 then jx_Ev d 64 129 lv st M Q else jx_Ev d 64 135 lv st M Q)) ∧
  (∀ (d : Nat) (st : List Value) (M : jx_M) (Q : jx_Po) (l0 l1 l2 l3 l4 l6 l7 : Option Value) (x : Int32), jx_Ev d 64 129 [l0, l1, l2, l3, l4, some (.int x), l6, l7] st M Q ↔ jx_Ev d 64 131 [l0, l1, l2, l3, l4, some (.int x), l6, l7] (.int x :: st) M Q) ∧
  (∀ (d : Nat) (lv : List (Option Value)) (st : List Value) (M : jx_M) (Q : jx_Po) (x : Int32), jx_Ev d 64 131 lv (.int x :: st) M Q ↔ jx_Ev d 64 132 lv (.long x.toInt64 :: st) M Q) ∧
  (∀ (d : Nat) (lv : List (Option Value)) (st : List Value) (M : jx_M) (Q : jx_Po), jx_Ev d 64 132 lv st M Q ↔ jx_Ev d 64 138 lv st M Q) ∧
  (∀ (d : Nat) (st : List Value) (M : jx_M) (Q : jx_Po) (l0 l1 l2 l3 l4 l5 l7 : Option Value) (x : Int32), jx_Ev d 64 135 [l0, l1, l2, l3, l4, l5, some (.int x), l7] st M Q ↔ jx_Ev d 64 137 [l0, l1, l2, l3, l4, l5, some (.int x), l7] (.int x :: st) M Q) ∧
  (∀ (d : Nat) (lv : List (Option Value)) (st : List Value) (M : jx_M) (Q : jx_Po) (x : Int32), jx_Ev d 64 137 lv (.int x :: st) M Q ↔ jx_Ev d 64 138 lv (.long x.toInt64 :: st) M Q) ∧
  (∀ (d : Nat) (lv : List (Option Value)) (M : jx_M) (Q : jx_Po) (x : Int64), jx_Ev d 64 138 lv [.long x] M Q ↔ Q [.long x] M) := by
  refine ⟨?_, ?_, ?_, ?_, ?_, ?_, ?_, ?_, ?_, ?_, ?_, ?_, ?_, ?_, ?_, ?_, ?_, ?_, ?_, ?_, ?_, ?_, ?_, ?_, ?_, ?_, ?_, ?_, ?_, ?_, ?_, ?_, ?_, ?_, ?_, ?_, ?_, ?_, ?_, ?_, ?_, ?_, ?_, ?_, ?_, ?_, ?_, ?_, ?_, ?_, ?_, ?_, ?_, ?_, ?_, ?_, ?_, ?_, ?_, ?_, ?_, ?_, ?_, ?_, ?_, ?_, ?_, ?_, ?_, ?_⟩
  · exact fun d st M Q l1 l2 l3 l4 l5 l6 l7 x => jx_ev_st (jx_fok (by decide +kernel : decode (jx_mb 64) 0 = .ok (.aload_n 0, 1))) rfl rfl rfl
  · exact fun d lv st M Q => jx_k_gf (jx_fok (by decide +kernel : decode (jx_mb 64) 1 = .ok (.getfield 55, 3))) rfl rfl rfl
  · exact fun d st M Q l0 l2 l3 l4 l5 l6 l7 x => jx_ev_st (jx_fok (by decide +kernel : decode (jx_mb 64) 4 = .ok (.iload_n 1, 1))) rfl rfl rfl
  · exact fun d lv M Q a0 a1 hk => jx_ev_ci (jx_fok (by decide +kernel : decode (jx_mb 64) 5 = .ok (.invokevirtual 111, 3))) rfl (jx_ccV (As := [.int a0]) (rest := []) rfl rfl rfl hk rfl rfl) (by decide)
  · exact fun d lv st M Q x => jx_k_b1 (jx_fok (by decide +kernel : decode (jx_mb 64) 8 = .ok (.ifCond .eq 19, 3))) rfl jx_hEq
  · exact fun d st M Q l0 l1 l3 l4 l5 l6 l7 x => jx_ev_st (jx_fok (by decide +kernel : decode (jx_mb 64) 11 = .ok (.iload_n 2, 1))) rfl rfl rfl
  · exact fun d lv M Q a0 => jx_ev_ci (jx_fok (by decide +kernel : decode (jx_mb 64) 12 = .ok (.invokestatic 130, 3))) rfl (jx_ccS (As := [.int a0]) (rest := []) rfl rfl rfl rfl rfl) (by decide)
  · exact fun d lv st M Q x => jx_k_b1 (jx_fok (by decide +kernel : decode (jx_mb 64) 15 = .ok (.ifCond .eq 12, 3))) rfl jx_hEq
  · exact fun d st M Q l0 l1 l2 l4 l5 l6 l7 x => jx_ev_st (jx_fok (by decide +kernel : decode (jx_mb 64) 18 = .ok (.iload_n 3, 1))) rfl rfl rfl
  · exact fun d lv st M Q x => jx_k_b1 (jx_fok (by decide +kernel : decode (jx_mb 64) 19 = .ok (.ifCond .lt 8, 3))) rfl jx_hLt
  · exact fun d st M Q l0 l1 l2 l4 l5 l6 l7 x => jx_ev_st (jx_fok (by decide +kernel : decode (jx_mb 64) 22 = .ok (.iload_n 3, 1))) rfl rfl rfl
  · exact fun d lv st M Q => jx_ev_st (jx_fok (by decide +kernel : decode (jx_mb 64) 23 = .ok (.iconst 1, 1))) rfl rfl rfl
  · exact fun d lv st M Q x z => jx_k_b2 (jx_fok (by decide +kernel : decode (jx_mb 64) 24 = .ok (.if_icmp .le 7, 3))) rfl jx_hLe
  · exact fun d lv st M Q => jx_ev_st (jx_fok (by decide +kernel : decode (jx_mb 64) 27 = .ok (.ldc2_w 203, 3))) rfl rfl rfl
  · exact fun d lv M Q x => jx_k_rl (jx_fok (by decide +kernel : decode (jx_mb 64) 30 = .ok (.lreturn, 1))) rfl
  · exact fun d st M Q l1 l2 l3 l4 l5 l6 l7 x => jx_ev_st (jx_fok (by decide +kernel : decode (jx_mb 64) 31 = .ok (.aload_n 0, 1))) rfl rfl rfl
  · exact fun d lv st M Q => jx_k_gf (jx_fok (by decide +kernel : decode (jx_mb 64) 32 = .ok (.getfield 55, 3))) rfl rfl rfl
  · exact fun d lv M Q a0 hk => jx_ev_ci (jx_fok (by decide +kernel : decode (jx_mb 64) 35 = .ok (.invokevirtual 137, 3))) rfl (jx_ccV (As := []) (rest := []) rfl rfl rfl hk rfl rfl) (by decide)
  · exact fun d lv st M Q => jx_ev_st (jx_fok (by decide +kernel : decode (jx_mb 64) 38 = .ok (.iconst 1, 1))) rfl rfl rfl
  · exact fun d lv st M Q x z => jx_ev_st (jx_fok (by decide +kernel : decode (jx_mb 64) 39 = .ok (.iadd, 1))) rfl rfl rfl
  · exact fun d st M Q l0 l1 l2 l3 l4 l5 l6 l7 x => jx_ev_st (jx_fok (by decide +kernel : decode (jx_mb 64) 40 = .ok (.istore 4, 2))) rfl rfl rfl
  · exact fun d lv st M Q => jx_ev_st (jx_fok (by decide +kernel : decode (jx_mb 64) 42 = .ok (.iconst 0, 1))) rfl rfl rfl
  · exact fun d st M Q l0 l1 l2 l3 l4 l5 l6 l7 x => jx_ev_st (jx_fok (by decide +kernel : decode (jx_mb 64) 43 = .ok (.istore 5, 2))) rfl rfl rfl
  · exact fun d st M Q l0 l1 l2 l3 l5 l6 l7 x => jx_ev_st (jx_fok (by decide +kernel : decode (jx_mb 64) 45 = .ok (.iload 4, 2))) rfl rfl rfl
  · exact fun d st M Q l0 l1 l2 l3 l4 l5 l6 l7 x => jx_ev_st (jx_fok (by decide +kernel : decode (jx_mb 64) 47 = .ok (.istore 6, 2))) rfl rfl rfl
  · exact fun d lv st M Q => jx_ev_st (jx_fok (by decide +kernel : decode (jx_mb 64) 49 = .ok (.iconst 0, 1))) rfl rfl rfl
  · exact fun d st M Q l0 l1 l2 l3 l4 l5 l6 l7 x => jx_ev_st (jx_fok (by decide +kernel : decode (jx_mb 64) 50 = .ok (.istore 7, 2))) rfl rfl rfl
  · exact fun d st M Q l0 l1 l2 l3 l5 l6 l7 x => jx_ev_st (jx_fok (by decide +kernel : decode (jx_mb 64) 54 = .ok (.iload 4, 2))) rfl rfl rfl
  · exact fun d lv st M Q x z => jx_k_b2 (jx_fok (by decide +kernel : decode (jx_mb 64) 56 = .ok (.if_icmp .ge 28, 3))) rfl jx_hGe
  · exact fun d st M Q l1 l2 l3 l4 l5 l6 l7 x => jx_ev_st (jx_fok (by decide +kernel : decode (jx_mb 64) 59 = .ok (.aload_n 0, 1))) rfl rfl rfl
  · exact fun d lv st M Q => jx_k_gf (jx_fok (by decide +kernel : decode (jx_mb 64) 60 = .ok (.getfield 55, 3))) rfl rfl rfl
  · exact fun d st M Q l0 l2 l3 l4 l5 l6 l7 x => jx_ev_st (jx_fok (by decide +kernel : decode (jx_mb 64) 63 = .ok (.iload_n 1, 1))) rfl rfl rfl
  · exact fun d st M Q l0 l1 l3 l4 l5 l6 l7 x => jx_ev_st (jx_fok (by decide +kernel : decode (jx_mb 64) 64 = .ok (.iload_n 2, 1))) rfl rfl rfl
  · exact fun d st M Q l0 l1 l2 l3 l4 l5 l6 x => jx_ev_st (jx_fok (by decide +kernel : decode (jx_mb 64) 65 = .ok (.iload 7, 2))) rfl rfl rfl
  · exact fun d lv M Q a0 a1 a2 a3 hk => jx_ev_ci (jx_fok (by decide +kernel : decode (jx_mb 64) 67 = .ok (.invokevirtual 141, 3))) rfl (jx_ccV (As := [.int a2, .int a1, .int a0]) (rest := []) rfl rfl rfl hk rfl rfl) (by decide)
  · exact fun d lv st M Q => jx_ev_st (jx_fok (by decide +kernel : decode (jx_mb 64) 70 = .ok (.bipush (-9), 2))) rfl rfl rfl
  · exact fun d lv st M Q x z => jx_k_b2 (jx_fok (by decide +kernel : decode (jx_mb 64) 72 = .ok (.if_icmp .eq 6, 3))) rfl jx_hEq
  · exact fun d st M Q l0 l1 l2 l3 l4 l6 l7 x => jx_ev_st (jx_fok (by decide +kernel : decode (jx_mb 64) 75 = .ok (.iinc 5 1, 3))) rfl rfl rfl
  · exact fun d st M Q l0 l1 l2 l3 l4 l5 l6 x => jx_ev_st (jx_fok (by decide +kernel : decode (jx_mb 64) 78 = .ok (.iinc 7 1, 3))) rfl rfl rfl
  · exact fun d lv st M Q => jx_k_goto (jx_fok (by decide +kernel : decode (jx_mb 64) 81 = .ok (.goto (-29), 3))) rfl
  · exact fun d lv st M Q => jx_ev_st (jx_fok (by decide +kernel : decode (jx_mb 64) 84 = .ok (.iconst 0, 1))) rfl rfl rfl
  · exact fun d st M Q l0 l1 l2 l3 l4 l5 l6 l7 x => jx_ev_st (jx_fok (by decide +kernel : decode (jx_mb 64) 85 = .ok (.istore 7, 2))) rfl rfl rfl
  · exact fun d lv st M Q => jx_ev_st (jx_fok (by decide +kernel : decode (jx_mb 64) 89 = .ok (.iconst 5, 1))) rfl rfl rfl
  · exact fun d lv st M Q x z => jx_k_b2 (jx_fok (by decide +kernel : decode (jx_mb 64) 90 = .ok (.if_icmp .ge 35, 3))) rfl jx_hGe
  · exact fun d st M Q l0 l1 l2 l3 l4 l6 l7 x => jx_ev_st (jx_fok (by decide +kernel : decode (jx_mb 64) 93 = .ok (.iload 5, 2))) rfl rfl rfl
  · exact fun d lv st M Q => jx_ev_st (jx_fok (by decide +kernel : decode (jx_mb 64) 95 = .ok (.iconst 2, 1))) rfl rfl rfl
  · exact fun d lv st M Q x z => jx_k_irem (jx_fok (by decide +kernel : decode (jx_mb 64) 96 = .ok (.irem, 1)))
  · exact fun d lv st M Q x => jx_k_b1n (jx_fok (by decide +kernel : decode (jx_mb 64) 97 = .ok (.ifCond .ne 28, 3))) rfl jx_hNe
  · exact fun d st M Q l0 l1 l2 l3 l4 l5 l7 x => jx_ev_st (jx_fok (by decide +kernel : decode (jx_mb 64) 100 = .ok (.iload 6, 2))) rfl rfl rfl
  · exact fun d lv st M Q => jx_ev_st (jx_fok (by decide +kernel : decode (jx_mb 64) 102 = .ok (.iconst 2, 1))) rfl rfl rfl
  · exact fun d lv st M Q x z => jx_k_irem (jx_fok (by decide +kernel : decode (jx_mb 64) 103 = .ok (.irem, 1)))
  · exact fun d lv st M Q x => jx_k_b1n (jx_fok (by decide +kernel : decode (jx_mb 64) 104 = .ok (.ifCond .ne 21, 3))) rfl jx_hNe
  · exact fun d st M Q l0 l1 l2 l3 l4 l6 l7 x => jx_ev_st (jx_fok (by decide +kernel : decode (jx_mb 64) 107 = .ok (.iload 5, 2))) rfl rfl rfl
  · exact fun d lv st M Q => jx_ev_st (jx_fok (by decide +kernel : decode (jx_mb 64) 109 = .ok (.iconst 2, 1))) rfl rfl rfl
  · exact fun d lv st M Q x z => jx_k_idiv (jx_fok (by decide +kernel : decode (jx_mb 64) 110 = .ok (.idiv, 1)))
  · exact fun d st M Q l0 l1 l2 l3 l4 l5 l6 l7 x => jx_ev_st (jx_fok (by decide +kernel : decode (jx_mb 64) 111 = .ok (.istore 5, 2))) rfl rfl rfl
  · exact fun d st M Q l0 l1 l2 l3 l4 l5 l7 x => jx_ev_st (jx_fok (by decide +kernel : decode (jx_mb 64) 113 = .ok (.iload 6, 2))) rfl rfl rfl
  · exact fun d lv st M Q => jx_ev_st (jx_fok (by decide +kernel : decode (jx_mb 64) 115 = .ok (.iconst 2, 1))) rfl rfl rfl
  · exact fun d lv st M Q x z => jx_k_idiv (jx_fok (by decide +kernel : decode (jx_mb 64) 116 = .ok (.idiv, 1)))
  · exact fun d st M Q l0 l1 l2 l3 l4 l5 l6 l7 x => jx_ev_st (jx_fok (by decide +kernel : decode (jx_mb 64) 117 = .ok (.istore 6, 2))) rfl rfl rfl
  · exact fun d st M Q l0 l1 l2 l3 l4 l5 l6 x => jx_ev_st (jx_fok (by decide +kernel : decode (jx_mb 64) 119 = .ok (.iinc 7 1, 3))) rfl rfl rfl
  · exact fun d lv st M Q => jx_k_goto (jx_fok (by decide +kernel : decode (jx_mb 64) 122 = .ok (.goto (-35), 3))) rfl
  · exact fun d st M Q l0 l1 l2 l4 l5 l6 l7 x => jx_ev_st (jx_fok (by decide +kernel : decode (jx_mb 64) 125 = .ok (.iload_n 3, 1))) rfl rfl rfl
  · exact fun d lv st M Q x => jx_k_b1n (jx_fok (by decide +kernel : decode (jx_mb 64) 126 = .ok (.ifCond .ne 9, 3))) rfl jx_hNe
  · exact fun d st M Q l0 l1 l2 l3 l4 l6 l7 x => jx_ev_st (jx_fok (by decide +kernel : decode (jx_mb 64) 129 = .ok (.iload 5, 2))) rfl rfl rfl
  · exact fun d lv st M Q x => jx_ev_st (jx_fok (by decide +kernel : decode (jx_mb 64) 131 = .ok (.i2l, 1))) rfl rfl rfl
  · exact fun d lv st M Q => jx_k_goto (jx_fok (by decide +kernel : decode (jx_mb 64) 132 = .ok (.goto 6, 3))) rfl
  · exact fun d st M Q l0 l1 l2 l3 l4 l5 l7 x => jx_ev_st (jx_fok (by decide +kernel : decode (jx_mb 64) 135 = .ok (.iload 6, 2))) rfl rfl rfl
  · exact fun d lv st M Q x => jx_ev_st (jx_fok (by decide +kernel : decode (jx_mb 64) 137 = .ok (.i2l, 1))) rfl rfl rfl
  · exact fun d lv M Q x => jx_k_rl (jx_fok (by decide +kernel : decode (jx_mb 64) 138 = .ok (.lreturn, 1))) rfl
theorem eX7_odds_52 (d : Nat) (st : List Value) (M : jx_M) (Q : jx_Po) (l0 l1 l2 l3 l4 l5 l6 : Option Value) (x : Int32) : jx_Ev d 64 52 [l0, l1, l2, l3, l4, l5, l6, some (.int x)] st M Q ↔ jx_Ev d 64 54 [l0, l1, l2, l3, l4, l5, l6, some (.int x)] (.int x :: st) M Q := jx_ev_st (jx_fok (by decide +kernel : decode (jx_mb 64) 52 = .ok (.iload 7, 2))) rfl rfl rfl
theorem eX7_odds_87 (d : Nat) (st : List Value) (M : jx_M) (Q : jx_Po) (l0 l1 l2 l3 l4 l5 l6 : Option Value) (x : Int32) : jx_Ev d 64 87 [l0, l1, l2, l3, l4, l5, l6, some (.int x)] st M Q ↔ jx_Ev d 64 89 [l0, l1, l2, l3, l4, l5, l6, some (.int x)] (.int x :: st) M Q := jx_ev_st (jx_fok (by decide +kernel : decode (jx_mb 64) 87 = .ok (.iload 7, 2))) rfl rfl rfl
theorem kX7_odds (d : Nat) (M : jx_M) (q : Int64 → jx_M → Prop) (a0 a1 a2 a3 : Value) : jx_L d 64 [a0, a1, a2, a3] M q ↔ jx_Ev d 64 0 [some a0, some a1, some a2, some a3, none, none, none, none] [] M (jx_qL q) := Iff.rfl
set_option maxRecDepth 100000 in
theorem eX7_sheet :
  (∀ (d : Nat) (st : List Value) (M : jx_M) (Q : jx_Po) (l1 l2 l3 : Option Value) (x : Nat), jx_Ev d 65 0 [some (.ref x), l1, l2, l3] st M Q ↔ jx_Ev d 65 1 [some (.ref x), l1, l2, l3] (.ref x :: st) M Q) ∧
  (∀ (d : Nat) (lv : List (Option Value)) (st : List Value) (M : jx_M) (Q : jx_Po), jx_Ev d 65 1 lv st M Q ↔ jx_Ev d 65 2 lv (.int 0 :: st) M Q) ∧
  (∀ (d : Nat) (lv : List (Option Value)) (st : List Value) (M : jx_M) (Q : jx_Po) (x : Int32), jx_Ev d 65 2 lv (.int x :: .ref 0 :: st) M Q ↔ jx_Ev d 65 5 lv st (jx_up M 0 9 x) Q) ∧
  (∀ (d : Nat) (st : List Value) (M : jx_M) (Q : jx_Po) (l0 l2 l3 : Option Value) (x : Int32), jx_Ev d 65 5 [l0, some (.int x), l2, l3] st M Q ↔ jx_Ev d 65 6 [l0, some (.int x), l2, l3] (.int x :: st) M Q) ∧
  (∀ (d : Nat) (lv : List (Option Value)) (M : jx_M) (Q : jx_Po) (a0 : Int32), jx_Ev (d + 1) 65 6 lv [.int a0] M Q ↔ jx_I d 80 [.int a0] M (fun x M => jx_Ev (d + 1) 65 9 lv (.int x :: []) M Q)) ∧
  (∀ (d : Nat) (lv : List (Option Value)) (st : List Value) (M : jx_M) (Q : jx_Po) (x : Int32), jx_Ev d 65 9 lv (.int x :: st) M Q ↔ (if x = 0 then jx_Ev d 65 12 lv st M Q else jx_Ev d 65 14 lv st M Q)) ∧
  (∀ (d : Nat) (lv : List (Option Value)) (st : List Value) (M : jx_M) (Q : jx_Po), jx_Ev d 65 12 lv st M Q ↔ jx_Ev d 65 13 lv (.int (-1) :: st) M Q) ∧
  (∀ (d : Nat) (lv : List (Option Value)) (M : jx_M) (Q : jx_Po) (x : Int32), jx_Ev d 65 13 lv [.int x] M Q ↔ Q [.int x] M) ∧
  (∀ (d : Nat) (st : List Value) (M : jx_M) (Q : jx_Po) (l0 l1 l3 : Option Value) (x : Int32), jx_Ev d 65 14 [l0, l1, some (.int x), l3] st M Q ↔ jx_Ev d 65 15 [l0, l1, some (.int x), l3] (.int x :: st) M Q) ∧
  (∀ (d : Nat) (lv : List (Option Value)) (M : jx_M) (Q : jx_Po) (a0 : Int32), jx_Ev (d + 1) 65 15 lv [.int a0] M Q ↔ jx_I d 81 [.int a0] M (fun x M => jx_Ev (d + 1) 65 18 lv (.int x :: []) M Q)) ∧
  (∀ (d : Nat) (lv : List (Option Value)) (st : List Value) (M : jx_M) (Q : jx_Po) (x : Int32), jx_Ev d 65 18 lv (.int x :: st) M Q ↔ (if x = 0 then jx_Ev d 65 27 lv st M Q else jx_Ev d 65 21 lv st M Q)) ∧
  (∀ (d : Nat) (st : List Value) (M : jx_M) (Q : jx_Po) (l0 l1 l2 : Option Value) (x : Int32), jx_Ev d 65 21 [l0, l1, l2, some (.int x)] st M Q ↔ jx_Ev d 65 22 [l0, l1, l2, some (.int x)] (.int x :: st) M Q) ∧
  (∀ (d : Nat) (lv : List (Option Value)) (st : List Value) (M : jx_M) (Q : jx_Po), jx_Ev d 65 22 lv st M Q ↔ jx_Ev d 65 24 lv (.int 60 :: st) M Q) ∧
  (∀ (d : Nat) (lv : List (Option Value)) (st : List Value) (M : jx_M) (Q : jx_Po) (x z : Int32), jx_Ev d 65 24 lv (.int z :: .int x :: st) M Q ↔ (if x ≤ z then jx_Ev d 65 30 lv st M Q else jx_Ev d 65 27 lv st M Q)) ∧
  (∀ (d : Nat) (lv : List (Option Value)) (st : List Value) (M : jx_M) (Q : jx_Po), jx_Ev d 65 27 lv st M Q ↔ jx_Ev d 65 29 lv (.int (-2) :: st) M Q) ∧
  (∀ (d : Nat) (lv : List (Option Value)) (M : jx_M) (Q : jx_Po) (x : Int32), jx_Ev d 65 29 lv [.int x] M Q ↔ Q [.int x] M) ∧
  (∀ (d : Nat) (st : List Value) (M : jx_M) (Q : jx_Po) (l0 l1 l2 : Option Value) (x : Int32), jx_Ev d 65 30 [l0, l1, l2, some (.int x)] st M Q ↔ jx_Ev d 65 31 [l0, l1, l2, some (.int x)] (.int x :: st) M Q) ∧
  (∀ (d : Nat) (lv : List (Option Value)) (st : List Value) (M : jx_M) (Q : jx_Po) (x : Int32), jx_Ev d 65 31 lv (.int x :: st) M Q ↔ (if 0 ≤ x then jx_Ev d 65 40 lv st M Q else jx_Ev d 65 34 lv st M Q)) ∧
  (∀ (d : Nat) (st : List Value) (M : jx_M) (Q : jx_Po) (l1 l2 l3 : Option Value) (x : Nat), jx_Ev d 65 34 [some (.ref x), l1, l2, l3] st M Q ↔ jx_Ev d 65 35 [some (.ref x), l1, l2, l3] (.ref x :: st) M Q) ∧
  (∀ (d : Nat) (lv : List (Option Value)) (st : List Value) (M : jx_M) (Q : jx_Po), jx_Ev d 65 35 lv st M Q ↔ jx_Ev d 65 36 lv (.int 4 :: st) M Q) ∧
  (∀ (d : Nat) (lv : List (Option Value)) (M : jx_M) (Q : jx_Po) (a0 : Int32), jx_Ev (d + 1) 65 36 lv [.int a0, .ref 0] M Q ↔ jx_I d 83 [.ref 0, .int a0] M (fun x M => jx_Ev (d + 1) 65 39 lv (.int x :: []) M Q)) ∧
  (∀ (d : Nat) (lv : List (Option Value)) (M : jx_M) (Q : jx_Po) (x : Int32), jx_Ev d 65 39 lv [.int x] M Q ↔ Q [.int x] M) ∧
  (∀ (d : Nat) (st : List Value) (M : jx_M) (Q : jx_Po) (l1 l2 l3 : Option Value) (x : Nat), jx_Ev d 65 40 [some (.ref x), l1, l2, l3] st M Q ↔ jx_Ev d 65 41 [some (.ref x), l1, l2, l3] (.ref x :: st) M Q) ∧
  (∀ (d : Nat) (lv : List (Option Value)) (st : List Value) (M : jx_M) (Q : jx_Po), jx_Ev d 65 41 lv (.ref 0 :: st) M Q ↔ jx_Ev d 65 44 lv (.ref 1 :: st) M Q) ∧
  (∀ (d : Nat) (st : List Value) (M : jx_M) (Q : jx_Po) (l0 l2 l3 : Option Value) (x : Int32), jx_Ev d 65 44 [l0, some (.int x), l2, l3] st M Q ↔ jx_Ev d 65 45 [l0, some (.int x), l2, l3] (.int x :: st) M Q) ∧
  (∀ (d : Nat) (lv : List (Option Value)) (st : List Value) (M : jx_M) (Q : jx_Po) (x : Int32), jx_Ev d 65 45 lv (.int x :: .ref 1 :: st) M Q ↔ (vp_in x 4 ∧ jx_Ev d 65 46 lv (.ref (jx_sp x) :: st) M Q)) ∧
  (∀ (d : Nat) (st : List Value) (M : jx_M) (Q : jx_Po) (l0 l1 l3 : Option Value) (x : Int32), jx_Ev d 65 46 [l0, l1, some (.int x), l3] st M Q ↔ jx_Ev d 65 47 [l0, l1, some (.int x), l3] (.int x :: st) M Q) ∧
  (∀ (d : Nat) (st : List Value) (M : jx_M) (Q : jx_Po) (l0 l1 l2 : Option Value) (x : Int32), jx_Ev d 65 47 [l0, l1, l2, some (.int x)] st M Q ↔ jx_Ev d 65 48 [l0, l1, l2, some (.int x)] (.int x :: st) M Q) ∧
  (∀ (d : Nat) (lv : List (Option Value)) (M : jx_M) (Q : jx_Po) (a0 : Int32) (a1 : Int32) (a2 : Nat) (hk : jx_cl a2 = 4), jx_Ev (d + 1) 65 48 lv [.int a0, .int a1, .ref a2] M Q ↔ jx_V d 20 [.ref a2, .int a1, .int a0] M (fun M => jx_Ev (d + 1) 65 51 lv [] M Q)) ∧
  (∀ (d : Nat) (lv : List (Option Value)) (st : List Value) (M : jx_M) (Q : jx_Po), jx_Ev d 65 51 lv st M Q ↔ jx_Ev d 65 52 lv (.int 1 :: st) M Q) ∧
  (∀ (d : Nat) (lv : List (Option Value)) (M : jx_M) (Q : jx_Po) (x : Int32), jx_Ev d 65 52 lv [.int x] M Q ↔ Q [.int x] M) := by
  refine ⟨?_, ?_, ?_, ?_, ?_, ?_, ?_, ?_, ?_, ?_, ?_, ?_, ?_, ?_, ?_, ?_, ?_, ?_, ?_, ?_, ?_, ?_, ?_, ?_, ?_, ?_, ?_, ?_, ?_, ?_, ?_⟩
  · exact fun d st M Q l1 l2 l3 x => jx_ev_st (jx_fok (by decide +kernel : decode (jx_mb 65) 0 = .ok (.aload_n 0, 1))) rfl rfl rfl
  · exact fun d lv st M Q => jx_ev_st (jx_fok (by decide +kernel : decode (jx_mb 65) 1 = .ok (.iconst 0, 1))) rfl rfl rfl
  · exact fun d lv st M Q x => jx_k_pf0 (jx_fok (by decide +kernel : decode (jx_mb 65) 2 = .ok (.putfield 66, 3))) rfl rfl rfl
  · exact fun d st M Q l0 l2 l3 x => jx_ev_st (jx_fok (by decide +kernel : decode (jx_mb 65) 5 = .ok (.iload_n 1, 1))) rfl rfl rfl
  · exact fun d lv M Q a0 => jx_ev_ci (jx_fok (by decide +kernel : decode (jx_mb 65) 6 = .ok (.invokestatic 70, 3))) rfl (jx_ccS (As := [.int a0]) (rest := []) rfl rfl rfl rfl rfl) (by decide)
  · exact fun d lv st M Q x => jx_k_b1n (jx_fok (by decide +kernel : decode (jx_mb 65) 9 = .ok (.ifCond .ne 5, 3))) rfl jx_hNe
  · exact fun d lv st M Q => jx_ev_st (jx_fok (by decide +kernel : decode (jx_mb 65) 12 = .ok (.iconst (-1), 1))) rfl rfl rfl
  · exact fun d lv M Q x => jx_k_ri (jx_fok (by decide +kernel : decode (jx_mb 65) 13 = .ok (.ireturn, 1))) rfl
  · exact fun d st M Q l0 l1 l3 x => jx_ev_st (jx_fok (by decide +kernel : decode (jx_mb 65) 14 = .ok (.iload_n 2, 1))) rfl rfl rfl
  · exact fun d lv M Q a0 => jx_ev_ci (jx_fok (by decide +kernel : decode (jx_mb 65) 15 = .ok (.invokestatic 74, 3))) rfl (jx_ccS (As := [.int a0]) (rest := []) rfl rfl rfl rfl rfl) (by decide)
  · exact fun d lv st M Q x => jx_k_b1 (jx_fok (by decide +kernel : decode (jx_mb 65) 18 = .ok (.ifCond .eq 9, 3))) rfl jx_hEq
  · exact fun d st M Q l0 l1 l2 x => jx_ev_st (jx_fok (by decide +kernel : decode (jx_mb 65) 21 = .ok (.iload_n 3, 1))) rfl rfl rfl
  · exact fun d lv st M Q => jx_ev_st (jx_fok (by decide +kernel : decode (jx_mb 65) 22 = .ok (.bipush 60, 2))) rfl rfl rfl
  · exact fun d lv st M Q x z => jx_k_b2 (jx_fok (by decide +kernel : decode (jx_mb 65) 24 = .ok (.if_icmp .le 6, 3))) rfl jx_hLe
  · exact fun d lv st M Q => jx_ev_st (jx_fok (by decide +kernel : decode (jx_mb 65) 27 = .ok (.bipush (-2), 2))) rfl rfl rfl
  · exact fun d lv M Q x => jx_k_ri (jx_fok (by decide +kernel : decode (jx_mb 65) 29 = .ok (.ireturn, 1))) rfl
  · exact fun d st M Q l0 l1 l2 x => jx_ev_st (jx_fok (by decide +kernel : decode (jx_mb 65) 30 = .ok (.iload_n 3, 1))) rfl rfl rfl
  · exact fun d lv st M Q x => jx_k_b1 (jx_fok (by decide +kernel : decode (jx_mb 65) 31 = .ok (.ifCond .ge 9, 3))) rfl jx_hGe
  · exact fun d st M Q l1 l2 l3 x => jx_ev_st (jx_fok (by decide +kernel : decode (jx_mb 65) 34 = .ok (.aload_n 0, 1))) rfl rfl rfl
  · exact fun d lv st M Q => jx_ev_st (jx_fok (by decide +kernel : decode (jx_mb 65) 35 = .ok (.iconst 4, 1))) rfl rfl rfl
  · exact fun d lv M Q a0 => jx_ev_ci (jx_fok (by decide +kernel : decode (jx_mb 65) 36 = .ok (.invokevirtual 81, 3))) rfl (jx_ccV (As := [.int a0]) (rest := []) rfl rfl rfl rfl rfl rfl) (by decide)
  · exact fun d lv M Q x => jx_k_ri (jx_fok (by decide +kernel : decode (jx_mb 65) 39 = .ok (.ireturn, 1))) rfl
  · exact fun d st M Q l1 l2 l3 x => jx_ev_st (jx_fok (by decide +kernel : decode (jx_mb 65) 40 = .ok (.aload_n 0, 1))) rfl rfl rfl
  · exact fun d lv st M Q => jx_k_gf (jx_fok (by decide +kernel : decode (jx_mb 65) 41 = .ok (.getfield 13, 3))) rfl rfl rfl
  · exact fun d st M Q l0 l2 l3 x => jx_ev_st (jx_fok (by decide +kernel : decode (jx_mb 65) 44 = .ok (.iload_n 1, 1))) rfl rfl rfl
  · exact fun d lv st M Q x => jx_k_aa (jx_fok (by decide +kernel : decode (jx_mb 65) 45 = .ok (.aaload, 1)))
  · exact fun d st M Q l0 l1 l3 x => jx_ev_st (jx_fok (by decide +kernel : decode (jx_mb 65) 46 = .ok (.iload_n 2, 1))) rfl rfl rfl
  · exact fun d st M Q l0 l1 l2 x => jx_ev_st (jx_fok (by decide +kernel : decode (jx_mb 65) 47 = .ok (.iload_n 3, 1))) rfl rfl rfl
  · exact fun d lv M Q a0 a1 a2 hk => jx_ev_cv (jx_fok (by decide +kernel : decode (jx_mb 65) 48 = .ok (.invokevirtual 205, 3))) rfl (jx_ccV (As := [.int a1, .int a0]) (rest := []) rfl rfl rfl hk rfl rfl) rfl
  · exact fun d lv st M Q => jx_ev_st (jx_fok (by decide +kernel : decode (jx_mb 65) 51 = .ok (.iconst 1, 1))) rfl rfl rfl
  · exact fun d lv M Q x => jx_k_ri (jx_fok (by decide +kernel : decode (jx_mb 65) 52 = .ok (.ireturn, 1))) rfl
theorem kX7_sheet (d : Nat) (M : jx_M) (q : Int32 → jx_M → Prop) (a0 a1 a2 a3 : Value) : jx_I d 65 [a0, a1, a2, a3] M q ↔ jx_Ev d 65 0 [some a0, some a1, some a2, some a3] [] M (jx_qI q) := Iff.rfl
set_option maxRecDepth 100000 in
theorem eX7_lose :
  (∀ (d : Nat) (st : List Value) (M : jx_M) (Q : jx_Po) (l0 l2 : Option Value) (x : Int32), jx_Ev d 66 0 [l0, some (.int x), l2] st M Q ↔ jx_Ev d 66 1 [l0, some (.int x), l2] (.int x :: st) M Q) ∧
  (∀ (d : Nat) (lv : List (Option Value)) (M : jx_M) (Q : jx_Po) (a0 : Int32), jx_Ev (d + 1) 66 1 lv [.int a0] M Q ↔ jx_I d 80 [.int a0] M (fun x M => jx_Ev (d + 1) 66 4 lv (.int x :: []) M Q)) ∧
  (∀ (d : Nat) (lv : List (Option Value)) (st : List Value) (M : jx_M) (Q : jx_Po) (x : Int32), jx_Ev d 66 4 lv (.int x :: st) M Q ↔ (if x = 0 then jx_Ev d 66 7 lv st M Q else jx_Ev d 66 9 lv st M Q)) ∧
  (∀ (d : Nat) (lv : List (Option Value)) (st : List Value) (M : jx_M) (Q : jx_Po), jx_Ev d 66 7 lv st M Q ↔ jx_Ev d 66 8 lv (.int (-1) :: st) M Q) ∧
  (∀ (d : Nat) (lv : List (Option Value)) (M : jx_M) (Q : jx_Po) (x : Int32), jx_Ev d 66 8 lv [.int x] M Q ↔ Q [.int x] M) ∧
  (∀ (d : Nat) (st : List Value) (M : jx_M) (Q : jx_Po) (l1 l2 : Option Value) (x : Nat), jx_Ev d 66 9 [some (.ref x), l1, l2] st M Q ↔ jx_Ev d 66 10 [some (.ref x), l1, l2] (.ref x :: st) M Q) ∧
  (∀ (d : Nat) (lv : List (Option Value)) (st : List Value) (M : jx_M) (Q : jx_Po), jx_Ev d 66 10 lv (.ref 0 :: st) M Q ↔ jx_Ev d 66 13 lv (.ref 1 :: st) M Q) ∧
  (∀ (d : Nat) (st : List Value) (M : jx_M) (Q : jx_Po) (l0 l2 : Option Value) (x : Int32), jx_Ev d 66 13 [l0, some (.int x), l2] st M Q ↔ jx_Ev d 66 14 [l0, some (.int x), l2] (.int x :: st) M Q) ∧
  (∀ (d : Nat) (lv : List (Option Value)) (st : List Value) (M : jx_M) (Q : jx_Po) (x : Int32), jx_Ev d 66 14 lv (.int x :: .ref 1 :: st) M Q ↔ (vp_in x 4 ∧ jx_Ev d 66 15 lv (.ref (jx_sp x) :: st) M Q)) ∧
  (∀ (d : Nat) (lv : List (Option Value)) (st : List Value) (M : jx_M) (Q : jx_Po) (k : Nat) (hk : jx_cl k = 4), jx_Ev d 66 15 lv (.ref k :: st) M Q ↔ jx_Ev d 66 18 lv (.int (M k 3) :: st) M Q) ∧
  (∀ (d : Nat) (lv : List (Option Value)) (st : List Value) (M : jx_M) (Q : jx_Po) (x : Int32), jx_Ev d 66 18 lv (.int x :: st) M Q ↔ (if x = 0 then jx_Ev d 66 25 lv st M Q else jx_Ev d 66 21 lv st M Q)) ∧
  (∀ (d : Nat) (lv : List (Option Value)) (st : List Value) (M : jx_M) (Q : jx_Po), jx_Ev d 66 21 lv st M Q ↔ jx_Ev d 66 22 lv (.int 1 :: st) M Q) ∧
  (∀ (d : Nat) (lv : List (Option Value)) (st : List Value) (M : jx_M) (Q : jx_Po), jx_Ev d 66 22 lv st M Q ↔ jx_Ev d 66 26 lv st M Q) ∧
  (∀ (d : Nat) (lv : List (Option Value)) (st : List Value) (M : jx_M) (Q : jx_Po), jx_Ev d 66 25 lv st M Q ↔ jx_Ev d 66 26 lv (.int 0 :: st) M Q) ∧
  (∀ (d : Nat) (st : List Value) (M : jx_M) (Q : jx_Po) (l0 l1 l2 : Option Value) (x : Int32), jx_Ev d 66 26 [l0, l1, l2] (.int x :: st) M Q ↔ jx_Ev d 66 27 [l0, l1, some (.int x)] st M Q) ∧
  (∀ (d : Nat) (st : List Value) (M : jx_M) (Q : jx_Po) (l1 l2 : Option Value) (x : Nat), jx_Ev d 66 27 [some (.ref x), l1, l2] st M Q ↔ jx_Ev d 66 28 [some (.ref x), l1, l2] (.ref x :: st) M Q) ∧
  (∀ (d : Nat) (lv : List (Option Value)) (st : List Value) (M : jx_M) (Q : jx_Po), jx_Ev d 66 28 lv (.ref 0 :: st) M Q ↔ jx_Ev d 66 31 lv (.ref 1 :: st) M Q) ∧
  (∀ (d : Nat) (st : List Value) (M : jx_M) (Q : jx_Po) (l0 l2 : Option Value) (x : Int32), jx_Ev d 66 31 [l0, some (.int x), l2] st M Q ↔ jx_Ev d 66 32 [l0, some (.int x), l2] (.int x :: st) M Q) ∧
  (∀ (d : Nat) (lv : List (Option Value)) (st : List Value) (M : jx_M) (Q : jx_Po) (x : Int32), jx_Ev d 66 32 lv (.int x :: .ref 1 :: st) M Q ↔ (vp_in x 4 ∧ jx_Ev d 66 33 lv (.ref (jx_sp x) :: st) M Q)) ∧
  (∀ (d : Nat) (lv : List (Option Value)) (st : List Value) (M : jx_M) (Q : jx_Po), jx_Ev d 66 33 lv st M Q ↔ jx_Ev d 66 34 lv (.int 0 :: st) M Q) ∧
  (∀ (d : Nat) (lv : List (Option Value)) (st : List Value) (M : jx_M) (Q : jx_Po) (x : Int32) (k : Nat) (hk : jx_cl k = 4), jx_Ev d 66 34 lv (.int x :: .ref k :: st) M Q ↔ ((x = 0 ∨ x = 1) ∧ jx_Ev d 66 37 lv st (jx_up M k 3 x) Q)) ∧
  (∀ (d : Nat) (st : List Value) (M : jx_M) (Q : jx_Po) (l0 l1 : Option Value) (x : Int32), jx_Ev d 66 37 [l0, l1, some (.int x)] st M Q ↔ jx_Ev d 66 38 [l0, l1, some (.int x)] (.int x :: st) M Q) ∧
  (∀ (d : Nat) (lv : List (Option Value)) (M : jx_M) (Q : jx_Po) (x : Int32), jx_Ev d 66 38 lv [.int x] M Q ↔ Q [.int x] M) := by
  refine ⟨?_, ?_, ?_, ?_, ?_, ?_, ?_, ?_, ?_, ?_, ?_, ?_, ?_, ?_, ?_, ?_, ?_, ?_, ?_, ?_, ?_, ?_, ?_⟩
  · exact fun d st M Q l0 l2 x => jx_ev_st (jx_fok (by decide +kernel : decode (jx_mb 66) 0 = .ok (.iload_n 1, 1))) rfl rfl rfl
  · exact fun d lv M Q a0 => jx_ev_ci (jx_fok (by decide +kernel : decode (jx_mb 66) 1 = .ok (.invokestatic 70, 3))) rfl (jx_ccS (As := [.int a0]) (rest := []) rfl rfl rfl rfl rfl) (by decide)
  · exact fun d lv st M Q x => jx_k_b1n (jx_fok (by decide +kernel : decode (jx_mb 66) 4 = .ok (.ifCond .ne 5, 3))) rfl jx_hNe
  · exact fun d lv st M Q => jx_ev_st (jx_fok (by decide +kernel : decode (jx_mb 66) 7 = .ok (.iconst (-1), 1))) rfl rfl rfl
  · exact fun d lv M Q x => jx_k_ri (jx_fok (by decide +kernel : decode (jx_mb 66) 8 = .ok (.ireturn, 1))) rfl
  · exact fun d st M Q l1 l2 x => jx_ev_st (jx_fok (by decide +kernel : decode (jx_mb 66) 9 = .ok (.aload_n 0, 1))) rfl rfl rfl
  · exact fun d lv st M Q => jx_k_gf (jx_fok (by decide +kernel : decode (jx_mb 66) 10 = .ok (.getfield 13, 3))) rfl rfl rfl
  · exact fun d st M Q l0 l2 x => jx_ev_st (jx_fok (by decide +kernel : decode (jx_mb 66) 13 = .ok (.iload_n 1, 1))) rfl rfl rfl
  · exact fun d lv st M Q x => jx_k_aa (jx_fok (by decide +kernel : decode (jx_mb 66) 14 = .ok (.aaload, 1)))
  · exact fun d lv st M Q k hk => jx_k_gf (jx_fok (by decide +kernel : decode (jx_mb 66) 15 = .ok (.getfield 209, 3))) rfl hk rfl
  · exact fun d lv st M Q x => jx_k_b1 (jx_fok (by decide +kernel : decode (jx_mb 66) 18 = .ok (.ifCond .eq 7, 3))) rfl jx_hEq
  · exact fun d lv st M Q => jx_ev_st (jx_fok (by decide +kernel : decode (jx_mb 66) 21 = .ok (.iconst 1, 1))) rfl rfl rfl
  · exact fun d lv st M Q => jx_k_goto (jx_fok (by decide +kernel : decode (jx_mb 66) 22 = .ok (.goto 4, 3))) rfl
  · exact fun d lv st M Q => jx_ev_st (jx_fok (by decide +kernel : decode (jx_mb 66) 25 = .ok (.iconst 0, 1))) rfl rfl rfl
  · exact fun d st M Q l0 l1 l2 x => jx_ev_st (jx_fok (by decide +kernel : decode (jx_mb 66) 26 = .ok (.istore_n 2, 1))) rfl rfl rfl
  · exact fun d st M Q l1 l2 x => jx_ev_st (jx_fok (by decide +kernel : decode (jx_mb 66) 27 = .ok (.aload_n 0, 1))) rfl rfl rfl
  · exact fun d lv st M Q => jx_k_gf (jx_fok (by decide +kernel : decode (jx_mb 66) 28 = .ok (.getfield 13, 3))) rfl rfl rfl
  · exact fun d st M Q l0 l2 x => jx_ev_st (jx_fok (by decide +kernel : decode (jx_mb 66) 31 = .ok (.iload_n 1, 1))) rfl rfl rfl
  · exact fun d lv st M Q x => jx_k_aa (jx_fok (by decide +kernel : decode (jx_mb 66) 32 = .ok (.aaload, 1)))
  · exact fun d lv st M Q => jx_ev_st (jx_fok (by decide +kernel : decode (jx_mb 66) 33 = .ok (.iconst 0, 1))) rfl rfl rfl
  · exact fun d lv st M Q x k hk => jx_k_pf1 (jx_fok (by decide +kernel : decode (jx_mb 66) 34 = .ok (.putfield 209, 3))) rfl hk rfl
  · exact fun d st M Q l0 l1 x => jx_ev_st (jx_fok (by decide +kernel : decode (jx_mb 66) 37 = .ok (.iload_n 2, 1))) rfl rfl rfl
  · exact fun d lv M Q x => jx_k_ri (jx_fok (by decide +kernel : decode (jx_mb 66) 38 = .ok (.ireturn, 1))) rfl
theorem kX7_lose (d : Nat) (M : jx_M) (q : Int32 → jx_M → Prop) (a0 a1 : Value) : jx_I d 66 [a0, a1] M q ↔ jx_Ev d 66 0 [some a0, some a1, none] [] M (jx_qI q) := Iff.rfl
set_option maxRecDepth 100000 in
theorem eX7_put :
  (∀ (d : Nat) (st : List Value) (M : jx_M) (Q : jx_Po) (l1 l2 l3 : Option Value) (x : Nat), jx_Ev d 67 0 [some (.ref x), l1, l2, l3] st M Q ↔ jx_Ev d 67 1 [some (.ref x), l1, l2, l3] (.ref x :: st) M Q) ∧
  (∀ (d : Nat) (lv : List (Option Value)) (st : List Value) (M : jx_M) (Q : jx_Po), jx_Ev d 67 1 lv st M Q ↔ jx_Ev d 67 2 lv (.int 0 :: st) M Q) ∧
  (∀ (d : Nat) (lv : List (Option Value)) (st : List Value) (M : jx_M) (Q : jx_Po) (x : Int32), jx_Ev d 67 2 lv (.int x :: .ref 0 :: st) M Q ↔ jx_Ev d 67 5 lv st (jx_up M 0 9 x) Q) ∧
  (∀ (d : Nat) (st : List Value) (M : jx_M) (Q : jx_Po) (l0 l2 l3 : Option Value) (x : Int32), jx_Ev d 67 5 [l0, some (.int x), l2, l3] st M Q ↔ jx_Ev d 67 6 [l0, some (.int x), l2, l3] (.int x :: st) M Q) ∧
  (∀ (d : Nat) (lv : List (Option Value)) (M : jx_M) (Q : jx_Po) (a0 : Int32), jx_Ev (d + 1) 67 6 lv [.int a0] M Q ↔ jx_I d 80 [.int a0] M (fun x M => jx_Ev (d + 1) 67 9 lv (.int x :: []) M Q)) ∧
  (∀ (d : Nat) (lv : List (Option Value)) (st : List Value) (M : jx_M) (Q : jx_Po) (x : Int32), jx_Ev d 67 9 lv (.int x :: st) M Q ↔ (if x = 0 then jx_Ev d 67 12 lv st M Q else jx_Ev d 67 14 lv st M Q)) ∧
  (∀ (d : Nat) (lv : List (Option Value)) (st : List Value) (M : jx_M) (Q : jx_Po), jx_Ev d 67 12 lv st M Q ↔ jx_Ev d 67 13 lv (.int (-1) :: st) M Q) ∧
  (∀ (d : Nat) (lv : List (Option Value)) (M : jx_M) (Q : jx_Po) (x : Int32), jx_Ev d 67 13 lv [.int x] M Q ↔ Q [.int x] M) ∧
  (∀ (d : Nat) (st : List Value) (M : jx_M) (Q : jx_Po) (l1 l2 l3 : Option Value) (x : Nat), jx_Ev d 67 14 [some (.ref x), l1, l2, l3] st M Q ↔ jx_Ev d 67 15 [some (.ref x), l1, l2, l3] (.ref x :: st) M Q) ∧
  (∀ (d : Nat) (lv : List (Option Value)) (st : List Value) (M : jx_M) (Q : jx_Po), jx_Ev d 67 15 lv (.ref 0 :: st) M Q ↔ jx_Ev d 67 18 lv (.ref 1 :: st) M Q) ∧
  (∀ (d : Nat) (st : List Value) (M : jx_M) (Q : jx_Po) (l0 l2 l3 : Option Value) (x : Int32), jx_Ev d 67 18 [l0, some (.int x), l2, l3] st M Q ↔ jx_Ev d 67 19 [l0, some (.int x), l2, l3] (.int x :: st) M Q) ∧
  (∀ (d : Nat) (lv : List (Option Value)) (st : List Value) (M : jx_M) (Q : jx_Po) (x : Int32), jx_Ev d 67 19 lv (.int x :: .ref 1 :: st) M Q ↔ (vp_in x 4 ∧ jx_Ev d 67 20 lv (.ref (jx_sp x) :: st) M Q)) ∧
  (∀ (d : Nat) (lv : List (Option Value)) (st : List Value) (M : jx_M) (Q : jx_Po) (k : Nat) (hk : jx_cl k = 4), jx_Ev d 67 20 lv (.ref k :: st) M Q ↔ jx_Ev d 67 23 lv (.int (M k 3) :: st) M Q) ∧
  (∀ (d : Nat) (lv : List (Option Value)) (st : List Value) (M : jx_M) (Q : jx_Po) (x : Int32), jx_Ev d 67 23 lv (.int x :: st) M Q ↔ (if x = 0 then jx_Ev d 67 26 lv st M Q else jx_Ev d 67 32 lv st M Q)) ∧
  (∀ (d : Nat) (st : List Value) (M : jx_M) (Q : jx_Po) (l1 l2 l3 : Option Value) (x : Nat), jx_Ev d 67 26 [some (.ref x), l1, l2, l3] st M Q ↔ jx_Ev d 67 27 [some (.ref x), l1, l2, l3] (.ref x :: st) M Q) ∧
  (∀ (d : Nat) (lv : List (Option Value)) (st : List Value) (M : jx_M) (Q : jx_Po), jx_Ev d 67 27 lv st M Q ↔ jx_Ev d 67 28 lv (.int 1 :: st) M Q) ∧
  (∀ (d : Nat) (lv : List (Option Value)) (M : jx_M) (Q : jx_Po) (a0 : Int32), jx_Ev (d + 1) 67 28 lv [.int a0, .ref 0] M Q ↔ jx_I d 83 [.ref 0, .int a0] M (fun x M => jx_Ev (d + 1) 67 31 lv (.int x :: []) M Q)) ∧
  (∀ (d : Nat) (lv : List (Option Value)) (M : jx_M) (Q : jx_Po) (x : Int32), jx_Ev d 67 31 lv [.int x] M Q ↔ Q [.int x] M) ∧
  (∀ (d : Nat) (st : List Value) (M : jx_M) (Q : jx_Po) (l1 l2 l3 : Option Value) (x : Nat), jx_Ev d 67 32 [some (.ref x), l1, l2, l3] st M Q ↔ jx_Ev d 67 33 [some (.ref x), l1, l2, l3] (.ref x :: st) M Q) ∧
  (∀ (d : Nat) (lv : List (Option Value)) (st : List Value) (M : jx_M) (Q : jx_Po), jx_Ev d 67 33 lv (.ref 0 :: st) M Q ↔ jx_Ev d 67 36 lv (.ref 1 :: st) M Q) ∧
  (∀ (d : Nat) (st : List Value) (M : jx_M) (Q : jx_Po) (l0 l2 l3 : Option Value) (x : Int32), jx_Ev d 67 36 [l0, some (.int x), l2, l3] st M Q ↔ jx_Ev d 67 37 [l0, some (.int x), l2, l3] (.int x :: st) M Q) ∧
  (∀ (d : Nat) (lv : List (Option Value)) (st : List Value) (M : jx_M) (Q : jx_Po) (x : Int32), jx_Ev d 67 37 lv (.int x :: .ref 1 :: st) M Q ↔ (vp_in x 4 ∧ jx_Ev d 67 38 lv (.ref (jx_sp x) :: st) M Q)) ∧
  (∀ (d : Nat) (st : List Value) (M : jx_M) (Q : jx_Po) (l0 l1 l3 : Option Value) (x : Int32), jx_Ev d 67 38 [l0, l1, some (.int x), l3] st M Q ↔ jx_Ev d 67 39 [l0, l1, some (.int x), l3] (.int x :: st) M Q) ∧
  (∀ (d : Nat) (lv : List (Option Value)) (st : List Value) (M : jx_M) (Q : jx_Po), jx_Ev d 67 39 lv st M Q ↔ jx_Ev d 67 40 lv (.int 1 :: st) M Q) ∧
  (∀ (d : Nat) (lv : List (Option Value)) (M : jx_M) (Q : jx_Po) (a0 : Int32) (a1 : Int32) (a2 : Nat) (hk : jx_cl a2 = 4), jx_Ev (d + 1) 67 40 lv [.int a0, .int a1, .ref a2] M Q ↔ jx_I d 21 [.ref a2, .int a1, .int a0] M (fun x M => jx_Ev (d + 1) 67 43 lv (.int x :: []) M Q)) ∧
  (∀ (d : Nat) (lv : List (Option Value)) (st : List Value) (M : jx_M) (Q : jx_Po) (x : Int32), jx_Ev d 67 43 lv (.int x :: st) M Q ↔ (if x = 0 then jx_Ev d 67 46 lv st M Q else jx_Ev d 67 52 lv st M Q)) ∧
  (∀ (d : Nat) (st : List Value) (M : jx_M) (Q : jx_Po) (l1 l2 l3 : Option Value) (x : Nat), jx_Ev d 67 46 [some (.ref x), l1, l2, l3] st M Q ↔ jx_Ev d 67 47 [some (.ref x), l1, l2, l3] (.ref x :: st) M Q) ∧
  (∀ (d : Nat) (lv : List (Option Value)) (st : List Value) (M : jx_M) (Q : jx_Po), jx_Ev d 67 47 lv st M Q ↔ jx_Ev d 67 48 lv (.int 3 :: st) M Q) ∧
  (∀ (d : Nat) (lv : List (Option Value)) (M : jx_M) (Q : jx_Po) (a0 : Int32), jx_Ev (d + 1) 67 48 lv [.int a0, .ref 0] M Q ↔ jx_I d 83 [.ref 0, .int a0] M (fun x M => jx_Ev (d + 1) 67 51 lv (.int x :: []) M Q)) ∧
  (∀ (d : Nat) (lv : List (Option Value)) (M : jx_M) (Q : jx_Po) (x : Int32), jx_Ev d 67 51 lv [.int x] M Q ↔ Q [.int x] M) ∧
  (∀ (d : Nat) (st : List Value) (M : jx_M) (Q : jx_Po) (l1 l2 l3 : Option Value) (x : Nat), jx_Ev d 67 52 [some (.ref x), l1, l2, l3] st M Q ↔ jx_Ev d 67 53 [some (.ref x), l1, l2, l3] (.ref x :: st) M Q) ∧
  (∀ (d : Nat) (lv : List (Option Value)) (st : List Value) (M : jx_M) (Q : jx_Po), jx_Ev d 67 53 lv (.ref 0 :: st) M Q ↔ jx_Ev d 67 56 lv (.ref 1 :: st) M Q) ∧
  (∀ (d : Nat) (st : List Value) (M : jx_M) (Q : jx_Po) (l0 l2 l3 : Option Value) (x : Int32), jx_Ev d 67 56 [l0, some (.int x), l2, l3] st M Q ↔ jx_Ev d 67 57 [l0, some (.int x), l2, l3] (.int x :: st) M Q) ∧
  (∀ (d : Nat) (lv : List (Option Value)) (st : List Value) (M : jx_M) (Q : jx_Po) (x : Int32), jx_Ev d 67 57 lv (.int x :: .ref 1 :: st) M Q ↔ (vp_in x 4 ∧ jx_Ev d 67 58 lv (.ref (jx_sp x) :: st) M Q)) ∧
  (∀ (d : Nat) (st : List Value) (M : jx_M) (Q : jx_Po) (l0 l1 l3 : Option Value) (x : Int32), jx_Ev d 67 58 [l0, l1, some (.int x), l3] st M Q ↔ jx_Ev d 67 59 [l0, l1, some (.int x), l3] (.int x :: st) M Q) ∧
  (∀ (d : Nat) (st : List Value) (M : jx_M) (Q : jx_Po) (l0 l1 l2 : Option Value) (x : Int32), jx_Ev d 67 59 [l0, l1, l2, some (.int x)] st M Q ↔ jx_Ev d 67 60 [l0, l1, l2, some (.int x)] (.int x :: st) M Q) ∧
  (∀ (d : Nat) (lv : List (Option Value)) (M : jx_M) (Q : jx_Po) (a0 : Int32) (a1 : Int32) (a2 : Nat) (hk : jx_cl a2 = 4), jx_Ev (d + 1) 67 60 lv [.int a0, .int a1, .ref a2] M Q ↔ jx_V d 24 [.ref a2, .int a1, .int a0] M (fun M => jx_Ev (d + 1) 67 63 lv [] M Q)) ∧
  (∀ (d : Nat) (lv : List (Option Value)) (st : List Value) (M : jx_M) (Q : jx_Po), jx_Ev d 67 63 lv st M Q ↔ jx_Ev d 67 64 lv (.int 1 :: st) M Q) ∧
  (∀ (d : Nat) (lv : List (Option Value)) (M : jx_M) (Q : jx_Po) (x : Int32), jx_Ev d 67 64 lv [.int x] M Q ↔ Q [.int x] M) := by
  refine ⟨?_, ?_, ?_, ?_, ?_, ?_, ?_, ?_, ?_, ?_, ?_, ?_, ?_, ?_, ?_, ?_, ?_, ?_, ?_, ?_, ?_, ?_, ?_, ?_, ?_, ?_, ?_, ?_, ?_, ?_, ?_, ?_, ?_, ?_, ?_, ?_, ?_, ?_, ?_⟩
  · exact fun d st M Q l1 l2 l3 x => jx_ev_st (jx_fok (by decide +kernel : decode (jx_mb 67) 0 = .ok (.aload_n 0, 1))) rfl rfl rfl
  · exact fun d lv st M Q => jx_ev_st (jx_fok (by decide +kernel : decode (jx_mb 67) 1 = .ok (.iconst 0, 1))) rfl rfl rfl
  · exact fun d lv st M Q x => jx_k_pf0 (jx_fok (by decide +kernel : decode (jx_mb 67) 2 = .ok (.putfield 66, 3))) rfl rfl rfl
  · exact fun d st M Q l0 l2 l3 x => jx_ev_st (jx_fok (by decide +kernel : decode (jx_mb 67) 5 = .ok (.iload_n 1, 1))) rfl rfl rfl
  · exact fun d lv M Q a0 => jx_ev_ci (jx_fok (by decide +kernel : decode (jx_mb 67) 6 = .ok (.invokestatic 70, 3))) rfl (jx_ccS (As := [.int a0]) (rest := []) rfl rfl rfl rfl rfl) (by decide)
  · exact fun d lv st M Q x => jx_k_b1n (jx_fok (by decide +kernel : decode (jx_mb 67) 9 = .ok (.ifCond .ne 5, 3))) rfl jx_hNe
  · exact fun d lv st M Q => jx_ev_st (jx_fok (by decide +kernel : decode (jx_mb 67) 12 = .ok (.iconst (-1), 1))) rfl rfl rfl
  · exact fun d lv M Q x => jx_k_ri (jx_fok (by decide +kernel : decode (jx_mb 67) 13 = .ok (.ireturn, 1))) rfl
  · exact fun d st M Q l1 l2 l3 x => jx_ev_st (jx_fok (by decide +kernel : decode (jx_mb 67) 14 = .ok (.aload_n 0, 1))) rfl rfl rfl
  · exact fun d lv st M Q => jx_k_gf (jx_fok (by decide +kernel : decode (jx_mb 67) 15 = .ok (.getfield 13, 3))) rfl rfl rfl
  · exact fun d st M Q l0 l2 l3 x => jx_ev_st (jx_fok (by decide +kernel : decode (jx_mb 67) 18 = .ok (.iload_n 1, 1))) rfl rfl rfl
  · exact fun d lv st M Q x => jx_k_aa (jx_fok (by decide +kernel : decode (jx_mb 67) 19 = .ok (.aaload, 1)))
  · exact fun d lv st M Q k hk => jx_k_gf (jx_fok (by decide +kernel : decode (jx_mb 67) 20 = .ok (.getfield 209, 3))) rfl hk rfl
  · exact fun d lv st M Q x => jx_k_b1n (jx_fok (by decide +kernel : decode (jx_mb 67) 23 = .ok (.ifCond .ne 9, 3))) rfl jx_hNe
  · exact fun d st M Q l1 l2 l3 x => jx_ev_st (jx_fok (by decide +kernel : decode (jx_mb 67) 26 = .ok (.aload_n 0, 1))) rfl rfl rfl
  · exact fun d lv st M Q => jx_ev_st (jx_fok (by decide +kernel : decode (jx_mb 67) 27 = .ok (.iconst 1, 1))) rfl rfl rfl
  · exact fun d lv M Q a0 => jx_ev_ci (jx_fok (by decide +kernel : decode (jx_mb 67) 28 = .ok (.invokevirtual 81, 3))) rfl (jx_ccV (As := [.int a0]) (rest := []) rfl rfl rfl rfl rfl rfl) (by decide)
  · exact fun d lv M Q x => jx_k_ri (jx_fok (by decide +kernel : decode (jx_mb 67) 31 = .ok (.ireturn, 1))) rfl
  · exact fun d st M Q l1 l2 l3 x => jx_ev_st (jx_fok (by decide +kernel : decode (jx_mb 67) 32 = .ok (.aload_n 0, 1))) rfl rfl rfl
  · exact fun d lv st M Q => jx_k_gf (jx_fok (by decide +kernel : decode (jx_mb 67) 33 = .ok (.getfield 13, 3))) rfl rfl rfl
  · exact fun d st M Q l0 l2 l3 x => jx_ev_st (jx_fok (by decide +kernel : decode (jx_mb 67) 36 = .ok (.iload_n 1, 1))) rfl rfl rfl
  · exact fun d lv st M Q x => jx_k_aa (jx_fok (by decide +kernel : decode (jx_mb 67) 37 = .ok (.aaload, 1)))
  · exact fun d st M Q l0 l1 l3 x => jx_ev_st (jx_fok (by decide +kernel : decode (jx_mb 67) 38 = .ok (.iload_n 2, 1))) rfl rfl rfl
  · exact fun d lv st M Q => jx_ev_st (jx_fok (by decide +kernel : decode (jx_mb 67) 39 = .ok (.iconst 1, 1))) rfl rfl rfl
  · exact fun d lv M Q a0 a1 a2 hk => jx_ev_ci (jx_fok (by decide +kernel : decode (jx_mb 67) 40 = .ok (.invokevirtual 213, 3))) rfl (jx_ccV (As := [.int a1, .int a0]) (rest := []) rfl rfl rfl hk rfl rfl) (by decide)
  · exact fun d lv st M Q x => jx_k_b1n (jx_fok (by decide +kernel : decode (jx_mb 67) 43 = .ok (.ifCond .ne 9, 3))) rfl jx_hNe
  · exact fun d st M Q l1 l2 l3 x => jx_ev_st (jx_fok (by decide +kernel : decode (jx_mb 67) 46 = .ok (.aload_n 0, 1))) rfl rfl rfl
  · exact fun d lv st M Q => jx_ev_st (jx_fok (by decide +kernel : decode (jx_mb 67) 47 = .ok (.iconst 3, 1))) rfl rfl rfl
  · exact fun d lv M Q a0 => jx_ev_ci (jx_fok (by decide +kernel : decode (jx_mb 67) 48 = .ok (.invokevirtual 81, 3))) rfl (jx_ccV (As := [.int a0]) (rest := []) rfl rfl rfl rfl rfl rfl) (by decide)
  · exact fun d lv M Q x => jx_k_ri (jx_fok (by decide +kernel : decode (jx_mb 67) 51 = .ok (.ireturn, 1))) rfl
  · exact fun d st M Q l1 l2 l3 x => jx_ev_st (jx_fok (by decide +kernel : decode (jx_mb 67) 52 = .ok (.aload_n 0, 1))) rfl rfl rfl
  · exact fun d lv st M Q => jx_k_gf (jx_fok (by decide +kernel : decode (jx_mb 67) 53 = .ok (.getfield 13, 3))) rfl rfl rfl
  · exact fun d st M Q l0 l2 l3 x => jx_ev_st (jx_fok (by decide +kernel : decode (jx_mb 67) 56 = .ok (.iload_n 1, 1))) rfl rfl rfl
  · exact fun d lv st M Q x => jx_k_aa (jx_fok (by decide +kernel : decode (jx_mb 67) 57 = .ok (.aaload, 1)))
  · exact fun d st M Q l0 l1 l3 x => jx_ev_st (jx_fok (by decide +kernel : decode (jx_mb 67) 58 = .ok (.iload_n 2, 1))) rfl rfl rfl
  · exact fun d st M Q l0 l1 l2 x => jx_ev_st (jx_fok (by decide +kernel : decode (jx_mb 67) 59 = .ok (.iload_n 3, 1))) rfl rfl rfl
  · exact fun d lv M Q a0 a1 a2 hk => jx_ev_cv (jx_fok (by decide +kernel : decode (jx_mb 67) 60 = .ok (.invokevirtual 216, 3))) rfl (jx_ccV (As := [.int a1, .int a0]) (rest := []) rfl rfl rfl hk rfl rfl) rfl
  · exact fun d lv st M Q => jx_ev_st (jx_fok (by decide +kernel : decode (jx_mb 67) 63 = .ok (.iconst 1, 1))) rfl rfl rfl
  · exact fun d lv M Q x => jx_k_ri (jx_fok (by decide +kernel : decode (jx_mb 67) 64 = .ok (.ireturn, 1))) rfl
theorem kX7_put (d : Nat) (M : jx_M) (q : Int32 → jx_M → Prop) (a0 a1 a2 a3 : Value) : jx_I d 67 [a0, a1, a2, a3] M q ↔ jx_Ev d 67 0 [some a0, some a1, some a2, some a3] [] M (jx_qI q) := Iff.rfl
set_option maxRecDepth 100000 in
theorem eX7_cell :
  (∀ (d : Nat) (st : List Value) (M : jx_M) (Q : jx_Po) (l1 l2 l3 : Option Value) (x : Nat), jx_Ev d 68 0 [some (.ref x), l1, l2, l3] st M Q ↔ jx_Ev d 68 1 [some (.ref x), l1, l2, l3] (.ref x :: st) M Q) ∧
  (∀ (d : Nat) (lv : List (Option Value)) (st : List Value) (M : jx_M) (Q : jx_Po), jx_Ev d 68 1 lv st M Q ↔ jx_Ev d 68 2 lv (.int 0 :: st) M Q) ∧
  (∀ (d : Nat) (lv : List (Option Value)) (st : List Value) (M : jx_M) (Q : jx_Po) (x : Int32), jx_Ev d 68 2 lv (.int x :: .ref 0 :: st) M Q ↔ jx_Ev d 68 5 lv st (jx_up M 0 9 x) Q) ∧
  (∀ (d : Nat) (st : List Value) (M : jx_M) (Q : jx_Po) (l0 l2 l3 : Option Value) (x : Int32), jx_Ev d 68 5 [l0, some (.int x), l2, l3] st M Q ↔ jx_Ev d 68 6 [l0, some (.int x), l2, l3] (.int x :: st) M Q) ∧
  (∀ (d : Nat) (lv : List (Option Value)) (M : jx_M) (Q : jx_Po) (a0 : Int32), jx_Ev (d + 1) 68 6 lv [.int a0] M Q ↔ jx_I d 80 [.int a0] M (fun x M => jx_Ev (d + 1) 68 9 lv (.int x :: []) M Q)) ∧
  (∀ (d : Nat) (lv : List (Option Value)) (st : List Value) (M : jx_M) (Q : jx_Po) (x : Int32), jx_Ev d 68 9 lv (.int x :: st) M Q ↔ (if x = 0 then jx_Ev d 68 19 lv st M Q else jx_Ev d 68 12 lv st M Q)) ∧
  (∀ (d : Nat) (st : List Value) (M : jx_M) (Q : jx_Po) (l0 l1 l2 : Option Value) (x : Int32), jx_Ev d 68 12 [l0, l1, l2, some (.int x)] st M Q ↔ jx_Ev d 68 13 [l0, l1, l2, some (.int x)] (.int x :: st) M Q) ∧
  (∀ (d : Nat) (lv : List (Option Value)) (M : jx_M) (Q : jx_Po) (a0 : Int32), jx_Ev (d + 1) 68 13 lv [.int a0] M Q ↔ jx_I d 81 [.int a0] M (fun x M => jx_Ev (d + 1) 68 16 lv (.int x :: []) M Q)) ∧
  (∀ (d : Nat) (lv : List (Option Value)) (st : List Value) (M : jx_M) (Q : jx_Po) (x : Int32), jx_Ev d 68 16 lv (.int x :: st) M Q ↔ (if x = 0 then jx_Ev d 68 19 lv st M Q else jx_Ev d 68 23 lv st M Q)) ∧
  (∀ (d : Nat) (lv : List (Option Value)) (st : List Value) (M : jx_M) (Q : jx_Po), jx_Ev d 68 19 lv st M Q ↔ jx_Ev d 68 22 lv (.long (-9223372036854775808) :: st) M Q) ∧
  (∀ (d : Nat) (lv : List (Option Value)) (M : jx_M) (Q : jx_Po) (x : Int64), jx_Ev d 68 22 lv [.long x] M Q ↔ Q [.long x] M) ∧
  (∀ (d : Nat) (st : List Value) (M : jx_M) (Q : jx_Po) (l1 l2 l3 : Option Value) (x : Nat), jx_Ev d 68 23 [some (.ref x), l1, l2, l3] st M Q ↔ jx_Ev d 68 24 [some (.ref x), l1, l2, l3] (.ref x :: st) M Q) ∧
  (∀ (d : Nat) (st : List Value) (M : jx_M) (Q : jx_Po) (l1 l2 l3 : Option Value) (x : Nat), jx_Ev d 68 24 [some (.ref x), l1, l2, l3] st M Q ↔ jx_Ev d 68 25 [some (.ref x), l1, l2, l3] (.ref x :: st) M Q) ∧
  (∀ (d : Nat) (lv : List (Option Value)) (st : List Value) (M : jx_M) (Q : jx_Po), jx_Ev d 68 25 lv (.ref 0 :: st) M Q ↔ jx_Ev d 68 28 lv (.ref 1 :: st) M Q) ∧
  (∀ (d : Nat) (st : List Value) (M : jx_M) (Q : jx_Po) (l0 l2 l3 : Option Value) (x : Int32), jx_Ev d 68 28 [l0, some (.int x), l2, l3] st M Q ↔ jx_Ev d 68 29 [l0, some (.int x), l2, l3] (.int x :: st) M Q) ∧
  (∀ (d : Nat) (lv : List (Option Value)) (st : List Value) (M : jx_M) (Q : jx_Po) (x : Int32), jx_Ev d 68 29 lv (.int x :: .ref 1 :: st) M Q ↔ (vp_in x 4 ∧ jx_Ev d 68 30 lv (.ref (jx_sp x) :: st) M Q)) ∧
  (∀ (d : Nat) (st : List Value) (M : jx_M) (Q : jx_Po) (l0 l1 l2 : Option Value) (x : Int32), jx_Ev d 68 30 [l0, l1, l2, some (.int x)] st M Q ↔ jx_Ev d 68 31 [l0, l1, l2, some (.int x)] (.int x :: st) M Q) ∧
  (∀ (d : Nat) (st : List Value) (M : jx_M) (Q : jx_Po) (l0 l1 l3 : Option Value) (x : Int32), jx_Ev d 68 31 [l0, l1, some (.int x), l3] st M Q ↔ jx_Ev d 68 32 [l0, l1, some (.int x), l3] (.int x :: st) M Q) ∧
  (∀ (d : Nat) (lv : List (Option Value)) (st : List Value) (M : jx_M) (Q : jx_Po), jx_Ev d 68 32 lv st M Q ↔ jx_Ev d 68 33 lv (.int 1 :: st) M Q) ∧
  (∀ (d : Nat) (lv : List (Option Value)) (M : jx_M) (Q : jx_Po) (a0 : Int32) (a1 : Int32) (a2 : Int32) (a3 : Nat) (a4 : Nat) (hk : jx_cl a3 = 4), jx_Ev (d + 1) 68 33 lv [.int a0, .int a1, .int a2, .ref a3, .ref a4] M Q ↔ jx_I d 22 [.ref a3, .int a2, .int a1, .int a0] M (fun x M => jx_Ev (d + 1) 68 36 lv (.int x :: [.ref a4]) M Q)) ∧
  (∀ (d : Nat) (lv : List (Option Value)) (st : List Value) (M : jx_M) (Q : jx_Po) (x : Int32), jx_Ev d 68 36 lv (.int x :: .ref 0 :: st) M Q ↔ jx_Ev d 68 39 lv st (jx_up M 0 9 x) Q) ∧
  (∀ (d : Nat) (st : List Value) (M : jx_M) (Q : jx_Po) (l1 l2 l3 : Option Value) (x : Nat), jx_Ev d 68 39 [some (.ref x), l1, l2, l3] st M Q ↔ jx_Ev d 68 40 [some (.ref x), l1, l2, l3] (.ref x :: st) M Q) ∧
  (∀ (d : Nat) (lv : List (Option Value)) (st : List Value) (M : jx_M) (Q : jx_Po), jx_Ev d 68 40 lv (.ref 0 :: st) M Q ↔ jx_Ev d 68 43 lv (.int (M 0 9) :: st) M Q) ∧
  (∀ (d : Nat) (lv : List (Option Value)) (st : List Value) (M : jx_M) (Q : jx_Po) (x : Int32), jx_Ev d 68 43 lv (.int x :: st) M Q ↔ (if x = 0 then jx_Ev d 68 46 lv st M Q else jx_Ev d 68 60 lv st M Q)) ∧
  (∀ (d : Nat) (st : List Value) (M : jx_M) (Q : jx_Po) (l1 l2 l3 : Option Value) (x : Nat), jx_Ev d 68 46 [some (.ref x), l1, l2, l3] st M Q ↔ jx_Ev d 68 47 [some (.ref x), l1, l2, l3] (.ref x :: st) M Q) ∧
  (∀ (d : Nat) (lv : List (Option Value)) (st : List Value) (M : jx_M) (Q : jx_Po), jx_Ev d 68 47 lv (.ref 0 :: st) M Q ↔ jx_Ev d 68 50 lv (.ref 1 :: st) M Q) ∧
  (∀ (d : Nat) (st : List Value) (M : jx_M) (Q : jx_Po) (l0 l2 l3 : Option Value) (x : Int32), jx_Ev d 68 50 [l0, some (.int x), l2, l3] st M Q ↔ jx_Ev d 68 51 [l0, some (.int x), l2, l3] (.int x :: st) M Q) ∧
  (∀ (d : Nat) (lv : List (Option Value)) (st : List Value) (M : jx_M) (Q : jx_Po) (x : Int32), jx_Ev d 68 51 lv (.int x :: .ref 1 :: st) M Q ↔ (vp_in x 4 ∧ jx_Ev d 68 52 lv (.ref (jx_sp x) :: st) M Q)) ∧
  (∀ (d : Nat) (st : List Value) (M : jx_M) (Q : jx_Po) (l0 l1 l3 : Option Value) (x : Int32), jx_Ev d 68 52 [l0, l1, some (.int x), l3] st M Q ↔ jx_Ev d 68 53 [l0, l1, some (.int x), l3] (.int x :: st) M Q) ∧
  (∀ (d : Nat) (lv : List (Option Value)) (M : jx_M) (Q : jx_Po) (a0 : Int32) (a1 : Nat) (hk : jx_cl a1 = 4), jx_Ev (d + 1) 68 53 lv [.int a0, .ref a1] M Q ↔ jx_I d 23 [.ref a1, .int a0] M (fun x M => jx_Ev (d + 1) 68 56 lv (.int x :: []) M Q)) ∧
  (∀ (d : Nat) (lv : List (Option Value)) (st : List Value) (M : jx_M) (Q : jx_Po) (x : Int32), jx_Ev d 68 56 lv (.int x :: st) M Q ↔ jx_Ev d 68 57 lv (.long x.toInt64 :: st) M Q) ∧
  (∀ (d : Nat) (lv : List (Option Value)) (st : List Value) (M : jx_M) (Q : jx_Po), jx_Ev d 68 57 lv st M Q ↔ jx_Ev d 68 63 lv st M Q) ∧
  (∀ (d : Nat) (lv : List (Option Value)) (st : List Value) (M : jx_M) (Q : jx_Po), jx_Ev d 68 60 lv st M Q ↔ jx_Ev d 68 63 lv (.long (-9223372036854775808) :: st) M Q) ∧
  (∀ (d : Nat) (lv : List (Option Value)) (M : jx_M) (Q : jx_Po) (x : Int64), jx_Ev d 68 63 lv [.long x] M Q ↔ Q [.long x] M) := by
  refine ⟨?_, ?_, ?_, ?_, ?_, ?_, ?_, ?_, ?_, ?_, ?_, ?_, ?_, ?_, ?_, ?_, ?_, ?_, ?_, ?_, ?_, ?_, ?_, ?_, ?_, ?_, ?_, ?_, ?_, ?_, ?_, ?_, ?_, ?_⟩
  · exact fun d st M Q l1 l2 l3 x => jx_ev_st (jx_fok (by decide +kernel : decode (jx_mb 68) 0 = .ok (.aload_n 0, 1))) rfl rfl rfl
  · exact fun d lv st M Q => jx_ev_st (jx_fok (by decide +kernel : decode (jx_mb 68) 1 = .ok (.iconst 0, 1))) rfl rfl rfl
  · exact fun d lv st M Q x => jx_k_pf0 (jx_fok (by decide +kernel : decode (jx_mb 68) 2 = .ok (.putfield 66, 3))) rfl rfl rfl
  · exact fun d st M Q l0 l2 l3 x => jx_ev_st (jx_fok (by decide +kernel : decode (jx_mb 68) 5 = .ok (.iload_n 1, 1))) rfl rfl rfl
  · exact fun d lv M Q a0 => jx_ev_ci (jx_fok (by decide +kernel : decode (jx_mb 68) 6 = .ok (.invokestatic 70, 3))) rfl (jx_ccS (As := [.int a0]) (rest := []) rfl rfl rfl rfl rfl) (by decide)
  · exact fun d lv st M Q x => jx_k_b1 (jx_fok (by decide +kernel : decode (jx_mb 68) 9 = .ok (.ifCond .eq 10, 3))) rfl jx_hEq
  · exact fun d st M Q l0 l1 l2 x => jx_ev_st (jx_fok (by decide +kernel : decode (jx_mb 68) 12 = .ok (.iload_n 3, 1))) rfl rfl rfl
  · exact fun d lv M Q a0 => jx_ev_ci (jx_fok (by decide +kernel : decode (jx_mb 68) 13 = .ok (.invokestatic 74, 3))) rfl (jx_ccS (As := [.int a0]) (rest := []) rfl rfl rfl rfl rfl) (by decide)
  · exact fun d lv st M Q x => jx_k_b1n (jx_fok (by decide +kernel : decode (jx_mb 68) 16 = .ok (.ifCond .ne 7, 3))) rfl jx_hNe
  · exact fun d lv st M Q => jx_ev_st (jx_fok (by decide +kernel : decode (jx_mb 68) 19 = .ok (.ldc2_w 203, 3))) rfl rfl rfl
  · exact fun d lv M Q x => jx_k_rl (jx_fok (by decide +kernel : decode (jx_mb 68) 22 = .ok (.lreturn, 1))) rfl
  · exact fun d st M Q l1 l2 l3 x => jx_ev_st (jx_fok (by decide +kernel : decode (jx_mb 68) 23 = .ok (.aload_n 0, 1))) rfl rfl rfl
  · exact fun d st M Q l1 l2 l3 x => jx_ev_st (jx_fok (by decide +kernel : decode (jx_mb 68) 24 = .ok (.aload_n 0, 1))) rfl rfl rfl
  · exact fun d lv st M Q => jx_k_gf (jx_fok (by decide +kernel : decode (jx_mb 68) 25 = .ok (.getfield 13, 3))) rfl rfl rfl
  · exact fun d st M Q l0 l2 l3 x => jx_ev_st (jx_fok (by decide +kernel : decode (jx_mb 68) 28 = .ok (.iload_n 1, 1))) rfl rfl rfl
  · exact fun d lv st M Q x => jx_k_aa (jx_fok (by decide +kernel : decode (jx_mb 68) 29 = .ok (.aaload, 1)))
  · exact fun d st M Q l0 l1 l2 x => jx_ev_st (jx_fok (by decide +kernel : decode (jx_mb 68) 30 = .ok (.iload_n 3, 1))) rfl rfl rfl
  · exact fun d st M Q l0 l1 l3 x => jx_ev_st (jx_fok (by decide +kernel : decode (jx_mb 68) 31 = .ok (.iload_n 2, 1))) rfl rfl rfl
  · exact fun d lv st M Q => jx_ev_st (jx_fok (by decide +kernel : decode (jx_mb 68) 32 = .ok (.iconst 1, 1))) rfl rfl rfl
  · exact fun d lv M Q a0 a1 a2 a3 a4 hk => jx_ev_ci (jx_fok (by decide +kernel : decode (jx_mb 68) 33 = .ok (.invokevirtual 77, 3))) rfl (jx_ccV (As := [.int a2, .int a1, .int a0]) (rest := [.ref a4]) rfl rfl rfl hk rfl rfl) (by decide)
  · exact fun d lv st M Q x => jx_k_pf0 (jx_fok (by decide +kernel : decode (jx_mb 68) 36 = .ok (.putfield 66, 3))) rfl rfl rfl
  · exact fun d st M Q l1 l2 l3 x => jx_ev_st (jx_fok (by decide +kernel : decode (jx_mb 68) 39 = .ok (.aload_n 0, 1))) rfl rfl rfl
  · exact fun d lv st M Q => jx_k_gf (jx_fok (by decide +kernel : decode (jx_mb 68) 40 = .ok (.getfield 66, 3))) rfl rfl rfl
  · exact fun d lv st M Q x => jx_k_b1n (jx_fok (by decide +kernel : decode (jx_mb 68) 43 = .ok (.ifCond .ne 17, 3))) rfl jx_hNe
  · exact fun d st M Q l1 l2 l3 x => jx_ev_st (jx_fok (by decide +kernel : decode (jx_mb 68) 46 = .ok (.aload_n 0, 1))) rfl rfl rfl
  · exact fun d lv st M Q => jx_k_gf (jx_fok (by decide +kernel : decode (jx_mb 68) 47 = .ok (.getfield 13, 3))) rfl rfl rfl
  · exact fun d st M Q l0 l2 l3 x => jx_ev_st (jx_fok (by decide +kernel : decode (jx_mb 68) 50 = .ok (.iload_n 1, 1))) rfl rfl rfl
  · exact fun d lv st M Q x => jx_k_aa (jx_fok (by decide +kernel : decode (jx_mb 68) 51 = .ok (.aaload, 1)))
  · exact fun d st M Q l0 l1 l3 x => jx_ev_st (jx_fok (by decide +kernel : decode (jx_mb 68) 52 = .ok (.iload_n 2, 1))) rfl rfl rfl
  · exact fun d lv M Q a0 a1 hk => jx_ev_ci (jx_fok (by decide +kernel : decode (jx_mb 68) 53 = .ok (.invokevirtual 219, 3))) rfl (jx_ccV (As := [.int a0]) (rest := []) rfl rfl rfl hk rfl rfl) (by decide)
  · exact fun d lv st M Q x => jx_ev_st (jx_fok (by decide +kernel : decode (jx_mb 68) 56 = .ok (.i2l, 1))) rfl rfl rfl
  · exact fun d lv st M Q => jx_k_goto (jx_fok (by decide +kernel : decode (jx_mb 68) 57 = .ok (.goto 6, 3))) rfl
  · exact fun d lv st M Q => jx_ev_st (jx_fok (by decide +kernel : decode (jx_mb 68) 60 = .ok (.ldc2_w 203, 3))) rfl rfl rfl
  · exact fun d lv M Q x => jx_k_rl (jx_fok (by decide +kernel : decode (jx_mb 68) 63 = .ok (.lreturn, 1))) rfl
theorem kX7_cell (d : Nat) (M : jx_M) (q : Int64 → jx_M → Prop) (a0 a1 a2 a3 : Value) : jx_L d 68 [a0, a1, a2, a3] M q ↔ jx_Ev d 68 0 [some a0, some a1, some a2, some a3] [] M (jx_qL q) := Iff.rfl
set_option maxRecDepth 100000 in
theorem eX7_copy :
  (∀ (d : Nat) (st : List Value) (M : jx_M) (Q : jx_Po) (l1 l2 l3 l4 l5 l6 l7 : Option Value) (x : Nat), jx_Ev d 69 0 [some (.ref x), l1, l2, l3, l4, l5, l6, l7] st M Q ↔ jx_Ev d 69 1 [some (.ref x), l1, l2, l3, l4, l5, l6, l7] (.ref x :: st) M Q) ∧
  (∀ (d : Nat) (lv : List (Option Value)) (st : List Value) (M : jx_M) (Q : jx_Po), jx_Ev d 69 1 lv st M Q ↔ jx_Ev d 69 2 lv (.int 0 :: st) M Q) ∧
  (∀ (d : Nat) (lv : List (Option Value)) (st : List Value) (M : jx_M) (Q : jx_Po) (x : Int32), jx_Ev d 69 2 lv (.int x :: .ref 0 :: st) M Q ↔ jx_Ev d 69 5 lv st (jx_up M 0 9 x) Q) ∧
  (∀ (d : Nat) (st : List Value) (M : jx_M) (Q : jx_Po) (l0 l2 l3 l4 l5 l6 l7 : Option Value) (x : Int32), jx_Ev d 69 5 [l0, some (.int x), l2, l3, l4, l5, l6, l7] st M Q ↔ jx_Ev d 69 6 [l0, some (.int x), l2, l3, l4, l5, l6, l7] (.int x :: st) M Q) ∧
  (∀ (d : Nat) (lv : List (Option Value)) (M : jx_M) (Q : jx_Po) (a0 : Int32), jx_Ev (d + 1) 69 6 lv [.int a0] M Q ↔ jx_I d 80 [.int a0] M (fun x M => jx_Ev (d + 1) 69 9 lv (.int x :: []) M Q)) ∧
  (∀ (d : Nat) (lv : List (Option Value)) (st : List Value) (M : jx_M) (Q : jx_Po) (x : Int32), jx_Ev d 69 9 lv (.int x :: st) M Q ↔ (if x = 0 then jx_Ev d 69 19 lv st M Q else jx_Ev d 69 12 lv st M Q)) ∧
  (∀ (d : Nat) (st : List Value) (M : jx_M) (Q : jx_Po) (l0 l1 l2 l4 l5 l6 l7 : Option Value) (x : Int32), jx_Ev d 69 12 [l0, l1, l2, some (.int x), l4, l5, l6, l7] st M Q ↔ jx_Ev d 69 13 [l0, l1, l2, some (.int x), l4, l5, l6, l7] (.int x :: st) M Q) ∧
  (∀ (d : Nat) (lv : List (Option Value)) (M : jx_M) (Q : jx_Po) (a0 : Int32), jx_Ev (d + 1) 69 13 lv [.int a0] M Q ↔ jx_I d 80 [.int a0] M (fun x M => jx_Ev (d + 1) 69 16 lv (.int x :: []) M Q)) ∧
  (∀ (d : Nat) (lv : List (Option Value)) (st : List Value) (M : jx_M) (Q : jx_Po) (x : Int32), jx_Ev d 69 16 lv (.int x :: st) M Q ↔ (if x = 0 then jx_Ev d 69 19 lv st M Q else jx_Ev d 69 21 lv st M Q)) ∧
  (∀ (d : Nat) (lv : List (Option Value)) (st : List Value) (M : jx_M) (Q : jx_Po), jx_Ev d 69 19 lv st M Q ↔ jx_Ev d 69 20 lv (.int (-1) :: st) M Q) ∧
  (∀ (d : Nat) (lv : List (Option Value)) (M : jx_M) (Q : jx_Po) (x : Int32), jx_Ev d 69 20 lv [.int x] M Q ↔ Q [.int x] M) ∧
  (∀ (d : Nat) (st : List Value) (M : jx_M) (Q : jx_Po) (l1 l2 l3 l4 l5 l6 l7 : Option Value) (x : Nat), jx_Ev d 69 21 [some (.ref x), l1, l2, l3, l4, l5, l6, l7] st M Q ↔ jx_Ev d 69 22 [some (.ref x), l1, l2, l3, l4, l5, l6, l7] (.ref x :: st) M Q) ∧
  (∀ (d : Nat) (lv : List (Option Value)) (st : List Value) (M : jx_M) (Q : jx_Po), jx_Ev d 69 22 lv (.ref 0 :: st) M Q ↔ jx_Ev d 69 25 lv (.ref 1 :: st) M Q) ∧
  (∀ (d : Nat) (st : List Value) (M : jx_M) (Q : jx_Po) (l0 l2 l3 l4 l5 l6 l7 : Option Value) (x : Int32), jx_Ev d 69 25 [l0, some (.int x), l2, l3, l4, l5, l6, l7] st M Q ↔ jx_Ev d 69 26 [l0, some (.int x), l2, l3, l4, l5, l6, l7] (.int x :: st) M Q) ∧
  (∀ (d : Nat) (lv : List (Option Value)) (st : List Value) (M : jx_M) (Q : jx_Po) (x : Int32), jx_Ev d 69 26 lv (.int x :: .ref 1 :: st) M Q ↔ (vp_in x 4 ∧ jx_Ev d 69 27 lv (.ref (jx_sp x) :: st) M Q)) ∧
  (∀ (d : Nat) (st : List Value) (M : jx_M) (Q : jx_Po) (l0 l1 l2 l3 l4 l5 l6 l7 : Option Value) (x : Nat), jx_Ev d 69 27 [l0, l1, l2, l3, l4, l5, l6, l7] (.ref x :: st) M Q ↔ jx_Ev d 69 29 [l0, l1, l2, l3, l4, l5, some (.ref x), l7] st M Q) ∧
  (∀ (d : Nat) (st : List Value) (M : jx_M) (Q : jx_Po) (l1 l2 l3 l4 l5 l6 l7 : Option Value) (x : Nat), jx_Ev d 69 29 [some (.ref x), l1, l2, l3, l4, l5, l6, l7] st M Q ↔ jx_Ev d 69 30 [some (.ref x), l1, l2, l3, l4, l5, l6, l7] (.ref x :: st) M Q) ∧
  (∀ (d : Nat) (lv : List (Option Value)) (st : List Value) (M : jx_M) (Q : jx_Po), jx_Ev d 69 30 lv (.ref 0 :: st) M Q ↔ jx_Ev d 69 33 lv (.ref 1 :: st) M Q) ∧
  (∀ (d : Nat) (st : List Value) (M : jx_M) (Q : jx_Po) (l0 l1 l2 l4 l5 l6 l7 : Option Value) (x : Int32), jx_Ev d 69 33 [l0, l1, l2, some (.int x), l4, l5, l6, l7] st M Q ↔ jx_Ev d 69 34 [l0, l1, l2, some (.int x), l4, l5, l6, l7] (.int x :: st) M Q) ∧
  (∀ (d : Nat) (lv : List (Option Value)) (st : List Value) (M : jx_M) (Q : jx_Po) (x : Int32), jx_Ev d 69 34 lv (.int x :: .ref 1 :: st) M Q ↔ (vp_in x 4 ∧ jx_Ev d 69 35 lv (.ref (jx_sp x) :: st) M Q)) ∧
  (∀ (d : Nat) (st : List Value) (M : jx_M) (Q : jx_Po) (l0 l1 l2 l3 l4 l5 l6 l7 : Option Value) (x : Nat), jx_Ev d 69 35 [l0, l1, l2, l3, l4, l5, l6, l7] (.ref x :: st) M Q ↔ jx_Ev d 69 37 [l0, l1, l2, l3, l4, l5, l6, some (.ref x)] st M Q) ∧
  (∀ (d : Nat) (st : List Value) (M : jx_M) (Q : jx_Po) (l0 l1 l2 l3 l4 l5 l7 : Option Value) (x : Nat), jx_Ev d 69 37 [l0, l1, l2, l3, l4, l5, some (.ref x), l7] st M Q ↔ jx_Ev d 69 39 [l0, l1, l2, l3, l4, l5, some (.ref x), l7] (.ref x :: st) M Q) ∧
  (∀ (d : Nat) (lv : List (Option Value)) (st : List Value) (M : jx_M) (Q : jx_Po) (k : Nat) (hk : jx_cl k = 4), jx_Ev d 69 39 lv (.ref k :: st) M Q ↔ jx_Ev d 69 42 lv (.int (M k 3) :: st) M Q) ∧
  (∀ (d : Nat) (lv : List (Option Value)) (st : List Value) (M : jx_M) (Q : jx_Po) (x : Int32), jx_Ev d 69 42 lv (.int x :: st) M Q ↔ (if x = 0 then jx_Ev d 69 53 lv st M Q else jx_Ev d 69 45 lv st M Q)) ∧
  (∀ (d : Nat) (st : List Value) (M : jx_M) (Q : jx_Po) (l0 l1 l2 l3 l4 l5 l6 : Option Value) (x : Nat), jx_Ev d 69 45 [l0, l1, l2, l3, l4, l5, l6, some (.ref x)] st M Q ↔ jx_Ev d 69 47 [l0, l1, l2, l3, l4, l5, l6, some (.ref x)] (.ref x :: st) M Q) ∧
  (∀ (d : Nat) (lv : List (Option Value)) (st : List Value) (M : jx_M) (Q : jx_Po) (k : Nat) (hk : jx_cl k = 4), jx_Ev d 69 47 lv (.ref k :: st) M Q ↔ jx_Ev d 69 50 lv (.int (M k 3) :: st) M Q) ∧
  (∀ (d : Nat) (lv : List (Option Value)) (st : List Value) (M : jx_M) (Q : jx_Po) (x : Int32), jx_Ev d 69 50 lv (.int x :: st) M Q ↔ (if x = 0 then jx_Ev d 69 53 lv st M Q else jx_Ev d 69 59 lv st M Q)) ∧
  (∀ (d : Nat) (st : List Value) (M : jx_M) (Q : jx_Po) (l1 l2 l3 l4 l5 l6 l7 : Option Value) (x : Nat), jx_Ev d 69 53 [some (.ref x), l1, l2, l3, l4, l5, l6, l7] st M Q ↔ jx_Ev d 69 54 [some (.ref x), l1, l2, l3, l4, l5, l6, l7] (.ref x :: st) M Q) ∧
  (∀ (d : Nat) (lv : List (Option Value)) (st : List Value) (M : jx_M) (Q : jx_Po), jx_Ev d 69 54 lv st M Q ↔ jx_Ev d 69 55 lv (.int 1 :: st) M Q) ∧
  (∀ (d : Nat) (lv : List (Option Value)) (M : jx_M) (Q : jx_Po) (a0 : Int32), jx_Ev (d + 1) 69 55 lv [.int a0, .ref 0] M Q ↔ jx_I d 83 [.ref 0, .int a0] M (fun x M => jx_Ev (d + 1) 69 58 lv (.int x :: []) M Q)) ∧
  (∀ (d : Nat) (lv : List (Option Value)) (M : jx_M) (Q : jx_Po) (x : Int32), jx_Ev d 69 58 lv [.int x] M Q ↔ Q [.int x] M) ∧
  (∀ (d : Nat) (st : List Value) (M : jx_M) (Q : jx_Po) (l0 l1 l2 l3 l4 l5 l7 : Option Value) (x : Nat), jx_Ev d 69 59 [l0, l1, l2, l3, l4, l5, some (.ref x), l7] st M Q ↔ jx_Ev d 69 61 [l0, l1, l2, l3, l4, l5, some (.ref x), l7] (.ref x :: st) M Q) ∧
  (∀ (d : Nat) (lv : List (Option Value)) (st : List Value) (M : jx_M) (Q : jx_Po) (k : Nat) (hk : jx_cl k = 4), jx_Ev d 69 61 lv (.ref k :: st) M Q ↔ jx_Ev d 69 64 lv (.int (M k 1) :: st) M Q) ∧
  (∀ (d : Nat) (st : List Value) (M : jx_M) (Q : jx_Po) (l0 l1 l2 l3 l4 l5 l6 : Option Value) (x : Nat), jx_Ev d 69 64 [l0, l1, l2, l3, l4, l5, l6, some (.ref x)] st M Q ↔ jx_Ev d 69 66 [l0, l1, l2, l3, l4, l5, l6, some (.ref x)] (.ref x :: st) M Q) ∧
  (∀ (d : Nat) (lv : List (Option Value)) (st : List Value) (M : jx_M) (Q : jx_Po) (k : Nat) (hk : jx_cl k = 4), jx_Ev d 69 66 lv (.ref k :: st) M Q ↔ jx_Ev d 69 69 lv (.int (M k 1) :: st) M Q) ∧
  (∀ (d : Nat) (lv : List (Option Value)) (st : List Value) (M : jx_M) (Q : jx_Po) (x z : Int32), jx_Ev d 69 69 lv (.int z :: .int x :: st) M Q ↔ (if x = z then jx_Ev d 69 78 lv st M Q else jx_Ev d 69 72 lv st M Q)) ∧
  (∀ (d : Nat) (st : List Value) (M : jx_M) (Q : jx_Po) (l1 l2 l3 l4 l5 l6 l7 : Option Value) (x : Nat), jx_Ev d 69 72 [some (.ref x), l1, l2, l3, l4, l5, l6, l7] st M Q ↔ jx_Ev d 69 73 [some (.ref x), l1, l2, l3, l4, l5, l6, l7] (.ref x :: st) M Q) ∧
  (∀ (d : Nat) (lv : List (Option Value)) (st : List Value) (M : jx_M) (Q : jx_Po), jx_Ev d 69 73 lv st M Q ↔ jx_Ev d 69 74 lv (.int 2 :: st) M Q) ∧
  (∀ (d : Nat) (lv : List (Option Value)) (M : jx_M) (Q : jx_Po) (a0 : Int32), jx_Ev (d + 1) 69 74 lv [.int a0, .ref 0] M Q ↔ jx_I d 83 [.ref 0, .int a0] M (fun x M => jx_Ev (d + 1) 69 77 lv (.int x :: []) M Q)) ∧
  (∀ (d : Nat) (lv : List (Option Value)) (M : jx_M) (Q : jx_Po) (x : Int32), jx_Ev d 69 77 lv [.int x] M Q ↔ Q [.int x] M) ∧
  (∀ (d : Nat) (st : List Value) (M : jx_M) (Q : jx_Po) (l0 l1 l2 l3 l4 l5 l7 : Option Value) (x : Nat), jx_Ev d 69 78 [l0, l1, l2, l3, l4, l5, some (.ref x), l7] st M Q ↔ jx_Ev d 69 80 [l0, l1, l2, l3, l4, l5, some (.ref x), l7] (.ref x :: st) M Q) ∧
  (∀ (d : Nat) (st : List Value) (M : jx_M) (Q : jx_Po) (l0 l1 l3 l4 l5 l6 l7 : Option Value) (x : Int32), jx_Ev d 69 80 [l0, l1, some (.int x), l3, l4, l5, l6, l7] st M Q ↔ jx_Ev d 69 81 [l0, l1, some (.int x), l3, l4, l5, l6, l7] (.int x :: st) M Q) ∧
  (∀ (d : Nat) (st : List Value) (M : jx_M) (Q : jx_Po) (l0 l1 l2 l3 l4 l6 l7 : Option Value) (x : Int32), jx_Ev d 69 81 [l0, l1, l2, l3, l4, some (.int x), l6, l7] st M Q ↔ jx_Ev d 69 83 [l0, l1, l2, l3, l4, some (.int x), l6, l7] (.int x :: st) M Q) ∧
  (∀ (d : Nat) (lv : List (Option Value)) (M : jx_M) (Q : jx_Po) (a0 : Int32) (a1 : Int32) (a2 : Nat) (hk : jx_cl a2 = 4), jx_Ev (d + 1) 69 83 lv [.int a0, .int a1, .ref a2] M Q ↔ jx_I d 21 [.ref a2, .int a1, .int a0] M (fun x M => jx_Ev (d + 1) 69 86 lv (.int x :: []) M Q)) ∧
  (∀ (d : Nat) (lv : List (Option Value)) (st : List Value) (M : jx_M) (Q : jx_Po) (x : Int32), jx_Ev d 69 86 lv (.int x :: st) M Q ↔ (if x = 0 then jx_Ev d 69 101 lv st M Q else jx_Ev d 69 89 lv st M Q)) ∧
  (∀ (d : Nat) (st : List Value) (M : jx_M) (Q : jx_Po) (l0 l1 l2 l3 l4 l5 l6 : Option Value) (x : Nat), jx_Ev d 69 89 [l0, l1, l2, l3, l4, l5, l6, some (.ref x)] st M Q ↔ jx_Ev d 69 91 [l0, l1, l2, l3, l4, l5, l6, some (.ref x)] (.ref x :: st) M Q) ∧
  (∀ (d : Nat) (st : List Value) (M : jx_M) (Q : jx_Po) (l0 l1 l2 l3 l5 l6 l7 : Option Value) (x : Int32), jx_Ev d 69 91 [l0, l1, l2, l3, some (.int x), l5, l6, l7] st M Q ↔ jx_Ev d 69 93 [l0, l1, l2, l3, some (.int x), l5, l6, l7] (.int x :: st) M Q) ∧
  (∀ (d : Nat) (st : List Value) (M : jx_M) (Q : jx_Po) (l0 l1 l2 l3 l4 l6 l7 : Option Value) (x : Int32), jx_Ev d 69 93 [l0, l1, l2, l3, l4, some (.int x), l6, l7] st M Q ↔ jx_Ev d 69 95 [l0, l1, l2, l3, l4, some (.int x), l6, l7] (.int x :: st) M Q) ∧
  (∀ (d : Nat) (lv : List (Option Value)) (M : jx_M) (Q : jx_Po) (a0 : Int32) (a1 : Int32) (a2 : Nat) (hk : jx_cl a2 = 4), jx_Ev (d + 1) 69 95 lv [.int a0, .int a1, .ref a2] M Q ↔ jx_I d 21 [.ref a2, .int a1, .int a0] M (fun x M => jx_Ev (d + 1) 69 98 lv (.int x :: []) M Q)) ∧
  (∀ (d : Nat) (lv : List (Option Value)) (st : List Value) (M : jx_M) (Q : jx_Po) (x : Int32), jx_Ev d 69 98 lv (.int x :: st) M Q ↔ (if x = 0 then jx_Ev d 69 101 lv st M Q else jx_Ev d 69 107 lv st M Q)) ∧
  (∀ (d : Nat) (st : List Value) (M : jx_M) (Q : jx_Po) (l1 l2 l3 l4 l5 l6 l7 : Option Value) (x : Nat), jx_Ev d 69 101 [some (.ref x), l1, l2, l3, l4, l5, l6, l7] st M Q ↔ jx_Ev d 69 102 [some (.ref x), l1, l2, l3, l4, l5, l6, l7] (.ref x :: st) M Q) ∧
  (∀ (d : Nat) (lv : List (Option Value)) (st : List Value) (M : jx_M) (Q : jx_Po), jx_Ev d 69 102 lv st M Q ↔ jx_Ev d 69 103 lv (.int 3 :: st) M Q) ∧
  (∀ (d : Nat) (lv : List (Option Value)) (M : jx_M) (Q : jx_Po) (a0 : Int32), jx_Ev (d + 1) 69 103 lv [.int a0, .ref 0] M Q ↔ jx_I d 83 [.ref 0, .int a0] M (fun x M => jx_Ev (d + 1) 69 106 lv (.int x :: []) M Q)) ∧
  (∀ (d : Nat) (lv : List (Option Value)) (M : jx_M) (Q : jx_Po) (x : Int32), jx_Ev d 69 106 lv [.int x] M Q ↔ Q [.int x] M) ∧
  (∀ (d : Nat) (st : List Value) (M : jx_M) (Q : jx_Po) (l0 l1 l2 l3 l4 l5 l7 : Option Value) (x : Nat), jx_Ev d 69 107 [l0, l1, l2, l3, l4, l5, some (.ref x), l7] st M Q ↔ jx_Ev d 69 109 [l0, l1, l2, l3, l4, l5, some (.ref x), l7] (.ref x :: st) M Q) ∧
  (∀ (d : Nat) (lv : List (Option Value)) (st : List Value) (M : jx_M) (Q : jx_Po) (k : Nat) (hk : jx_cl k = 4), jx_Ev d 69 109 lv (.ref k :: st) M Q ↔ jx_Ev d 69 112 lv (.ref (k + 1) :: st) M Q) ∧
  (∀ (d : Nat) (st : List Value) (M : jx_M) (Q : jx_Po) (l0 l1 l3 l4 l5 l6 l7 : Option Value) (x : Int32), jx_Ev d 69 112 [l0, l1, some (.int x), l3, l4, l5, l6, l7] st M Q ↔ jx_Ev d 69 113 [l0, l1, some (.int x), l3, l4, l5, l6, l7] (.int x :: st) M Q) ∧
  (∀ (d : Nat) (st : List Value) (M : jx_M) (Q : jx_Po) (l0 l1 l2 l3 l4 l5 l6 : Option Value) (x : Nat), jx_Ev d 69 113 [l0, l1, l2, l3, l4, l5, l6, some (.ref x)] st M Q ↔ jx_Ev d 69 115 [l0, l1, l2, l3, l4, l5, l6, some (.ref x)] (.ref x :: st) M Q) ∧
  (∀ (d : Nat) (lv : List (Option Value)) (st : List Value) (M : jx_M) (Q : jx_Po) (k : Nat) (hk : jx_cl k = 4), jx_Ev d 69 115 lv (.ref k :: st) M Q ↔ jx_Ev d 69 118 lv (.ref (k + 1) :: st) M Q) ∧
  (∀ (d : Nat) (st : List Value) (M : jx_M) (Q : jx_Po) (l0 l1 l2 l3 l5 l6 l7 : Option Value) (x : Int32), jx_Ev d 69 118 [l0, l1, l2, l3, some (.int x), l5, l6, l7] st M Q ↔ jx_Ev d 69 120 [l0, l1, l2, l3, some (.int x), l5, l6, l7] (.int x :: st) M Q) ∧
  (∀ (d : Nat) (st : List Value) (M : jx_M) (Q : jx_Po) (l0 l1 l2 l3 l4 l6 l7 : Option Value) (x : Int32), jx_Ev d 69 120 [l0, l1, l2, l3, l4, some (.int x), l6, l7] st M Q ↔ jx_Ev d 69 122 [l0, l1, l2, l3, l4, some (.int x), l6, l7] (.int x :: st) M Q) ∧
  (∀ (d : Nat) (lv : List (Option Value)) (M : jx_M) (Q : jx_Po) (a0 : Int32) (a1 : Int32) (a2 : Nat) (a3 : Int32) (a4 : Nat) (h4 : jx_cl a4 = 9) (h2 : jx_cl a2 = 9), jx_Ev (d + 1) 69 122 lv [.int a0, .int a1, .ref a2, .int a3, .ref a4] M Q ↔ (jx_cpP a4 a2 a3 a1 a0 ∧ jx_Ev (d + 1) 69 125 lv [] (jx_cp M a4 a2 a3 a1 a0) Q)) ∧
  (∀ (d : Nat) (st : List Value) (M : jx_M) (Q : jx_Po) (l0 l1 l2 l3 l4 l6 l7 : Option Value) (x : Int32), jx_Ev d 69 125 [l0, l1, l2, l3, l4, some (.int x), l6, l7] st M Q ↔ jx_Ev d 69 127 [l0, l1, l2, l3, l4, some (.int x), l6, l7] (.int x :: st) M Q) ∧
  (∀ (d : Nat) (lv : List (Option Value)) (M : jx_M) (Q : jx_Po) (x : Int32), jx_Ev d 69 127 lv [.int x] M Q ↔ Q [.int x] M) := by
  refine ⟨?_, ?_, ?_, ?_, ?_, ?_, ?_, ?_, ?_, ?_, ?_, ?_, ?_, ?_, ?_, ?_, ?_, ?_, ?_, ?_, ?_, ?_, ?_, ?_, ?_, ?_, ?_, ?_, ?_, ?_, ?_, ?_, ?_, ?_, ?_, ?_, ?_, ?_, ?_, ?_, ?_, ?_, ?_, ?_, ?_, ?_, ?_, ?_, ?_, ?_, ?_, ?_, ?_, ?_, ?_, ?_, ?_, ?_, ?_, ?_, ?_, ?_, ?_, ?_⟩
  · exact fun d st M Q l1 l2 l3 l4 l5 l6 l7 x => jx_ev_st (jx_fok (by decide +kernel : decode (jx_mb 69) 0 = .ok (.aload_n 0, 1))) rfl rfl rfl
  · exact fun d lv st M Q => jx_ev_st (jx_fok (by decide +kernel : decode (jx_mb 69) 1 = .ok (.iconst 0, 1))) rfl rfl rfl
  · exact fun d lv st M Q x => jx_k_pf0 (jx_fok (by decide +kernel : decode (jx_mb 69) 2 = .ok (.putfield 66, 3))) rfl rfl rfl
  · exact fun d st M Q l0 l2 l3 l4 l5 l6 l7 x => jx_ev_st (jx_fok (by decide +kernel : decode (jx_mb 69) 5 = .ok (.iload_n 1, 1))) rfl rfl rfl
  · exact fun d lv M Q a0 => jx_ev_ci (jx_fok (by decide +kernel : decode (jx_mb 69) 6 = .ok (.invokestatic 70, 3))) rfl (jx_ccS (As := [.int a0]) (rest := []) rfl rfl rfl rfl rfl) (by decide)
  · exact fun d lv st M Q x => jx_k_b1 (jx_fok (by decide +kernel : decode (jx_mb 69) 9 = .ok (.ifCond .eq 10, 3))) rfl jx_hEq
  · exact fun d st M Q l0 l1 l2 l4 l5 l6 l7 x => jx_ev_st (jx_fok (by decide +kernel : decode (jx_mb 69) 12 = .ok (.iload_n 3, 1))) rfl rfl rfl
  · exact fun d lv M Q a0 => jx_ev_ci (jx_fok (by decide +kernel : decode (jx_mb 69) 13 = .ok (.invokestatic 70, 3))) rfl (jx_ccS (As := [.int a0]) (rest := []) rfl rfl rfl rfl rfl) (by decide)
  · exact fun d lv st M Q x => jx_k_b1n (jx_fok (by decide +kernel : decode (jx_mb 69) 16 = .ok (.ifCond .ne 5, 3))) rfl jx_hNe
  · exact fun d lv st M Q => jx_ev_st (jx_fok (by decide +kernel : decode (jx_mb 69) 19 = .ok (.iconst (-1), 1))) rfl rfl rfl
  · exact fun d lv M Q x => jx_k_ri (jx_fok (by decide +kernel : decode (jx_mb 69) 20 = .ok (.ireturn, 1))) rfl
  · exact fun d st M Q l1 l2 l3 l4 l5 l6 l7 x => jx_ev_st (jx_fok (by decide +kernel : decode (jx_mb 69) 21 = .ok (.aload_n 0, 1))) rfl rfl rfl
  · exact fun d lv st M Q => jx_k_gf (jx_fok (by decide +kernel : decode (jx_mb 69) 22 = .ok (.getfield 13, 3))) rfl rfl rfl
  · exact fun d st M Q l0 l2 l3 l4 l5 l6 l7 x => jx_ev_st (jx_fok (by decide +kernel : decode (jx_mb 69) 25 = .ok (.iload_n 1, 1))) rfl rfl rfl
  · exact fun d lv st M Q x => jx_k_aa (jx_fok (by decide +kernel : decode (jx_mb 69) 26 = .ok (.aaload, 1)))
  · exact fun d st M Q l0 l1 l2 l3 l4 l5 l6 l7 x => jx_ev_st (jx_fok (by decide +kernel : decode (jx_mb 69) 27 = .ok (.astore 6, 2))) rfl rfl rfl
  · exact fun d st M Q l1 l2 l3 l4 l5 l6 l7 x => jx_ev_st (jx_fok (by decide +kernel : decode (jx_mb 69) 29 = .ok (.aload_n 0, 1))) rfl rfl rfl
  · exact fun d lv st M Q => jx_k_gf (jx_fok (by decide +kernel : decode (jx_mb 69) 30 = .ok (.getfield 13, 3))) rfl rfl rfl
  · exact fun d st M Q l0 l1 l2 l4 l5 l6 l7 x => jx_ev_st (jx_fok (by decide +kernel : decode (jx_mb 69) 33 = .ok (.iload_n 3, 1))) rfl rfl rfl
  · exact fun d lv st M Q x => jx_k_aa (jx_fok (by decide +kernel : decode (jx_mb 69) 34 = .ok (.aaload, 1)))
  · exact fun d st M Q l0 l1 l2 l3 l4 l5 l6 l7 x => jx_ev_st (jx_fok (by decide +kernel : decode (jx_mb 69) 35 = .ok (.astore 7, 2))) rfl rfl rfl
  · exact fun d st M Q l0 l1 l2 l3 l4 l5 l7 x => jx_ev_st (jx_fok (by decide +kernel : decode (jx_mb 69) 37 = .ok (.aload 6, 2))) rfl rfl rfl
  · exact fun d lv st M Q k hk => jx_k_gf (jx_fok (by decide +kernel : decode (jx_mb 69) 39 = .ok (.getfield 209, 3))) rfl hk rfl
  · exact fun d lv st M Q x => jx_k_b1 (jx_fok (by decide +kernel : decode (jx_mb 69) 42 = .ok (.ifCond .eq 11, 3))) rfl jx_hEq
  · exact fun d st M Q l0 l1 l2 l3 l4 l5 l6 x => jx_ev_st (jx_fok (by decide +kernel : decode (jx_mb 69) 45 = .ok (.aload 7, 2))) rfl rfl rfl
  · exact fun d lv st M Q k hk => jx_k_gf (jx_fok (by decide +kernel : decode (jx_mb 69) 47 = .ok (.getfield 209, 3))) rfl hk rfl
  · exact fun d lv st M Q x => jx_k_b1n (jx_fok (by decide +kernel : decode (jx_mb 69) 50 = .ok (.ifCond .ne 9, 3))) rfl jx_hNe
  · exact fun d st M Q l1 l2 l3 l4 l5 l6 l7 x => jx_ev_st (jx_fok (by decide +kernel : decode (jx_mb 69) 53 = .ok (.aload_n 0, 1))) rfl rfl rfl
  · exact fun d lv st M Q => jx_ev_st (jx_fok (by decide +kernel : decode (jx_mb 69) 54 = .ok (.iconst 1, 1))) rfl rfl rfl
  · exact fun d lv M Q a0 => jx_ev_ci (jx_fok (by decide +kernel : decode (jx_mb 69) 55 = .ok (.invokevirtual 81, 3))) rfl (jx_ccV (As := [.int a0]) (rest := []) rfl rfl rfl rfl rfl rfl) (by decide)
  · exact fun d lv M Q x => jx_k_ri (jx_fok (by decide +kernel : decode (jx_mb 69) 58 = .ok (.ireturn, 1))) rfl
  · exact fun d st M Q l0 l1 l2 l3 l4 l5 l7 x => jx_ev_st (jx_fok (by decide +kernel : decode (jx_mb 69) 59 = .ok (.aload 6, 2))) rfl rfl rfl
  · exact fun d lv st M Q k hk => jx_k_gf (jx_fok (by decide +kernel : decode (jx_mb 69) 61 = .ok (.getfield 222, 3))) rfl hk rfl
  · exact fun d st M Q l0 l1 l2 l3 l4 l5 l6 x => jx_ev_st (jx_fok (by decide +kernel : decode (jx_mb 69) 64 = .ok (.aload 7, 2))) rfl rfl rfl
  · exact fun d lv st M Q k hk => jx_k_gf (jx_fok (by decide +kernel : decode (jx_mb 69) 66 = .ok (.getfield 222, 3))) rfl hk rfl
  · exact fun d lv st M Q x z => jx_k_b2 (jx_fok (by decide +kernel : decode (jx_mb 69) 69 = .ok (.if_icmp .eq 9, 3))) rfl jx_hEq
  · exact fun d st M Q l1 l2 l3 l4 l5 l6 l7 x => jx_ev_st (jx_fok (by decide +kernel : decode (jx_mb 69) 72 = .ok (.aload_n 0, 1))) rfl rfl rfl
  · exact fun d lv st M Q => jx_ev_st (jx_fok (by decide +kernel : decode (jx_mb 69) 73 = .ok (.iconst 2, 1))) rfl rfl rfl
  · exact fun d lv M Q a0 => jx_ev_ci (jx_fok (by decide +kernel : decode (jx_mb 69) 74 = .ok (.invokevirtual 81, 3))) rfl (jx_ccV (As := [.int a0]) (rest := []) rfl rfl rfl rfl rfl rfl) (by decide)
  · exact fun d lv M Q x => jx_k_ri (jx_fok (by decide +kernel : decode (jx_mb 69) 77 = .ok (.ireturn, 1))) rfl
  · exact fun d st M Q l0 l1 l2 l3 l4 l5 l7 x => jx_ev_st (jx_fok (by decide +kernel : decode (jx_mb 69) 78 = .ok (.aload 6, 2))) rfl rfl rfl
  · exact fun d st M Q l0 l1 l3 l4 l5 l6 l7 x => jx_ev_st (jx_fok (by decide +kernel : decode (jx_mb 69) 80 = .ok (.iload_n 2, 1))) rfl rfl rfl
  · exact fun d st M Q l0 l1 l2 l3 l4 l6 l7 x => jx_ev_st (jx_fok (by decide +kernel : decode (jx_mb 69) 81 = .ok (.iload 5, 2))) rfl rfl rfl
  · exact fun d lv M Q a0 a1 a2 hk => jx_ev_ci (jx_fok (by decide +kernel : decode (jx_mb 69) 83 = .ok (.invokevirtual 213, 3))) rfl (jx_ccV (As := [.int a1, .int a0]) (rest := []) rfl rfl rfl hk rfl rfl) (by decide)
  · exact fun d lv st M Q x => jx_k_b1 (jx_fok (by decide +kernel : decode (jx_mb 69) 86 = .ok (.ifCond .eq 15, 3))) rfl jx_hEq
  · exact fun d st M Q l0 l1 l2 l3 l4 l5 l6 x => jx_ev_st (jx_fok (by decide +kernel : decode (jx_mb 69) 89 = .ok (.aload 7, 2))) rfl rfl rfl
  · exact fun d st M Q l0 l1 l2 l3 l5 l6 l7 x => jx_ev_st (jx_fok (by decide +kernel : decode (jx_mb 69) 91 = .ok (.iload 4, 2))) rfl rfl rfl
  · exact fun d st M Q l0 l1 l2 l3 l4 l6 l7 x => jx_ev_st (jx_fok (by decide +kernel : decode (jx_mb 69) 93 = .ok (.iload 5, 2))) rfl rfl rfl
  · exact fun d lv M Q a0 a1 a2 hk => jx_ev_ci (jx_fok (by decide +kernel : decode (jx_mb 69) 95 = .ok (.invokevirtual 213, 3))) rfl (jx_ccV (As := [.int a1, .int a0]) (rest := []) rfl rfl rfl hk rfl rfl) (by decide)
  · exact fun d lv st M Q x => jx_k_b1n (jx_fok (by decide +kernel : decode (jx_mb 69) 98 = .ok (.ifCond .ne 9, 3))) rfl jx_hNe
  · exact fun d st M Q l1 l2 l3 l4 l5 l6 l7 x => jx_ev_st (jx_fok (by decide +kernel : decode (jx_mb 69) 101 = .ok (.aload_n 0, 1))) rfl rfl rfl
  · exact fun d lv st M Q => jx_ev_st (jx_fok (by decide +kernel : decode (jx_mb 69) 102 = .ok (.iconst 3, 1))) rfl rfl rfl
  · exact fun d lv M Q a0 => jx_ev_ci (jx_fok (by decide +kernel : decode (jx_mb 69) 103 = .ok (.invokevirtual 81, 3))) rfl (jx_ccV (As := [.int a0]) (rest := []) rfl rfl rfl rfl rfl rfl) (by decide)
  · exact fun d lv M Q x => jx_k_ri (jx_fok (by decide +kernel : decode (jx_mb 69) 106 = .ok (.ireturn, 1))) rfl
  · exact fun d st M Q l0 l1 l2 l3 l4 l5 l7 x => jx_ev_st (jx_fok (by decide +kernel : decode (jx_mb 69) 107 = .ok (.aload 6, 2))) rfl rfl rfl
  · exact fun d lv st M Q k hk => jx_k_gf (jx_fok (by decide +kernel : decode (jx_mb 69) 109 = .ok (.getfield 225, 3))) rfl hk rfl
  · exact fun d st M Q l0 l1 l3 l4 l5 l6 l7 x => jx_ev_st (jx_fok (by decide +kernel : decode (jx_mb 69) 112 = .ok (.iload_n 2, 1))) rfl rfl rfl
  · exact fun d st M Q l0 l1 l2 l3 l4 l5 l6 x => jx_ev_st (jx_fok (by decide +kernel : decode (jx_mb 69) 113 = .ok (.aload 7, 2))) rfl rfl rfl
  · exact fun d lv st M Q k hk => jx_k_gf (jx_fok (by decide +kernel : decode (jx_mb 69) 115 = .ok (.getfield 225, 3))) rfl hk rfl
  · exact fun d st M Q l0 l1 l2 l3 l5 l6 l7 x => jx_ev_st (jx_fok (by decide +kernel : decode (jx_mb 69) 118 = .ok (.iload 4, 2))) rfl rfl rfl
  · exact fun d st M Q l0 l1 l2 l3 l4 l6 l7 x => jx_ev_st (jx_fok (by decide +kernel : decode (jx_mb 69) 120 = .ok (.iload 5, 2))) rfl rfl rfl
  · exact fun d lv M Q a0 a1 a2 a3 a4 h4 h2 => jx_k_cpy (jx_fok (by decide +kernel : decode (jx_mb 69) 122 = .ok (.invokestatic 228, 3))) rfl rfl (Nat.le_of_ble_eq_true rfl) h4 h2
  · exact fun d st M Q l0 l1 l2 l3 l4 l6 l7 x => jx_ev_st (jx_fok (by decide +kernel : decode (jx_mb 69) 125 = .ok (.iload 5, 2))) rfl rfl rfl
  · exact fun d lv M Q x => jx_k_ri (jx_fok (by decide +kernel : decode (jx_mb 69) 127 = .ok (.ireturn, 1))) rfl
theorem kX7_copy (d : Nat) (M : jx_M) (q : Int32 → jx_M → Prop) (a0 a1 a2 a3 a4 a5 : Value) : jx_I d 69 [a0, a1, a2, a3, a4, a5] M q ↔ jx_Ev d 69 0 [some a0, some a1, some a2, some a3, some a4, some a5, none, none] [] M (jx_qI q) := Iff.rfl
set_option maxRecDepth 100000 in
theorem eX7_tell :
  (∀ (d : Nat) (st : List Value) (M : jx_M) (Q : jx_Po) (l1 : Option Value) (x : Nat), jx_Ev d 70 0 [some (.ref x), l1] st M Q ↔ jx_Ev d 70 1 [some (.ref x), l1] (.ref x :: st) M Q) ∧
  (∀ (d : Nat) (lv : List (Option Value)) (st : List Value) (M : jx_M) (Q : jx_Po), jx_Ev d 70 1 lv (.ref 0 :: st) M Q ↔ jx_Ev d 70 4 lv (jx_rv (M 0 6) :: st) M Q) ∧
  (∀ (d : Nat) (st : List Value) (M : jx_M) (Q : jx_Po) (l0 : Option Value) (x : Int32), jx_Ev d 70 4 [l0, some (.int x)] st M Q ↔ jx_Ev d 70 5 [l0, some (.int x)] (.int x :: st) M Q) ∧
  (∀ (d : Nat) (lv : List (Option Value)) (M : jx_M) (Q : jx_Po) (a0 : Int32) (a1 : Nat) (hk : jx_cl a1 = 1), jx_Ev (d + 1) 70 5 lv [.int a0, .ref a1] M Q ↔ jx_I d 6 [.ref a1, .int a0] M (fun x M => jx_Ev (d + 1) 70 8 lv (.int x :: []) M Q)) ∧
  (∀ (d : Nat) (lv : List (Option Value)) (st : List Value) (M : jx_M) (Q : jx_Po) (x : Int32), jx_Ev d 70 8 lv (.int x :: st) M Q ↔ (if x = 0 then jx_Ev d 70 11 lv st M Q else jx_Ev d 70 13 lv st M Q)) ∧
  (∀ (d : Nat) (lv : List (Option Value)) (st : List Value) (M : jx_M) (Q : jx_Po), jx_Ev d 70 11 lv st M Q ↔ jx_Ev d 70 12 lv (.int (-1) :: st) M Q) ∧
  (∀ (d : Nat) (lv : List (Option Value)) (M : jx_M) (Q : jx_Po) (x : Int32), jx_Ev d 70 12 lv [.int x] M Q ↔ Q [.int x] M) ∧
  (∀ (d : Nat) (st : List Value) (M : jx_M) (Q : jx_Po) (l1 : Option Value) (x : Nat), jx_Ev d 70 13 [some (.ref x), l1] st M Q ↔ jx_Ev d 70 14 [some (.ref x), l1] (.ref x :: st) M Q) ∧
  (∀ (d : Nat) (lv : List (Option Value)) (st : List Value) (M : jx_M) (Q : jx_Po), jx_Ev d 70 14 lv (.ref 0 :: st) M Q ↔ jx_Ev d 70 17 lv (jx_rv (M 0 6) :: st) M Q) ∧
  (∀ (d : Nat) (lv : List (Option Value)) (st : List Value) (M : jx_M) (Q : jx_Po) (k : Nat) (hk : jx_cl k = 1), jx_Ev d 70 17 lv (.ref k :: st) M Q ↔ jx_Ev d 70 20 lv (.ref (k + 3) :: st) M Q) ∧
  (∀ (d : Nat) (st : List Value) (M : jx_M) (Q : jx_Po) (l0 : Option Value) (x : Int32), jx_Ev d 70 20 [l0, some (.int x)] st M Q ↔ jx_Ev d 70 21 [l0, some (.int x)] (.int x :: st) M Q) ∧
  (∀ (d : Nat) (lv : List (Option Value)) (st : List Value) (M : jx_M) (Q : jx_Po) (x : Int32) (a : Nat) (ha : jx_cl a = 9), jx_Ev d 70 21 lv (.int x :: .ref a :: st) M Q ↔ (vp_in x (jx_sz a) ∧ jx_Ev d 70 22 lv (.int (M a x.toNatClampNeg) :: st) M Q)) ∧
  (∀ (d : Nat) (lv : List (Option Value)) (st : List Value) (M : jx_M) (Q : jx_Po) (x : Int32), jx_Ev d 70 22 lv (.int x :: st) M Q ↔ (if x = 1 then jx_Ev d 70 54 lv st M Q else if x = 2 then jx_Ev d 70 48 lv st M Q else jx_Ev d 70 60 lv st M Q)) ∧
  (∀ (d : Nat) (st : List Value) (M : jx_M) (Q : jx_Po) (l1 : Option Value) (x : Nat), jx_Ev d 70 48 [some (.ref x), l1] st M Q ↔ jx_Ev d 70 49 [some (.ref x), l1] (.ref x :: st) M Q) ∧
  (∀ (d : Nat) (st : List Value) (M : jx_M) (Q : jx_Po) (l0 : Option Value) (x : Int32), jx_Ev d 70 49 [l0, some (.int x)] st M Q ↔ jx_Ev d 70 50 [l0, some (.int x)] (.int x :: st) M Q) ∧
  (∀ (d : Nat) (lv : List (Option Value)) (M : jx_M) (Q : jx_Po) (a0 : Int32), jx_Ev (d + 1) 70 50 lv [.int a0, .ref 0] M Q ↔ jx_I d 71 [.ref 0, .int a0] M (fun x M => jx_Ev (d + 1) 70 53 lv (.int x :: []) M Q)) ∧
  (∀ (d : Nat) (lv : List (Option Value)) (M : jx_M) (Q : jx_Po) (x : Int32), jx_Ev d 70 53 lv [.int x] M Q ↔ Q [.int x] M) ∧
  (∀ (d : Nat) (st : List Value) (M : jx_M) (Q : jx_Po) (l1 : Option Value) (x : Nat), jx_Ev d 70 54 [some (.ref x), l1] st M Q ↔ jx_Ev d 70 55 [some (.ref x), l1] (.ref x :: st) M Q) ∧
  (∀ (d : Nat) (st : List Value) (M : jx_M) (Q : jx_Po) (l0 : Option Value) (x : Int32), jx_Ev d 70 55 [l0, some (.int x)] st M Q ↔ jx_Ev d 70 56 [l0, some (.int x)] (.int x :: st) M Q) ∧
  (∀ (d : Nat) (lv : List (Option Value)) (M : jx_M) (Q : jx_Po) (a0 : Int32), jx_Ev (d + 1) 70 56 lv [.int a0, .ref 0] M Q ↔ jx_I d 72 [.ref 0, .int a0] M (fun x M => jx_Ev (d + 1) 70 59 lv (.int x :: []) M Q)) ∧
  (∀ (d : Nat) (lv : List (Option Value)) (M : jx_M) (Q : jx_Po) (x : Int32), jx_Ev d 70 59 lv [.int x] M Q ↔ Q [.int x] M) ∧
  (∀ (d : Nat) (st : List Value) (M : jx_M) (Q : jx_Po) (l1 : Option Value) (x : Nat), jx_Ev d 70 60 [some (.ref x), l1] st M Q ↔ jx_Ev d 70 61 [some (.ref x), l1] (.ref x :: st) M Q) ∧
  (∀ (d : Nat) (st : List Value) (M : jx_M) (Q : jx_Po) (l0 : Option Value) (x : Int32), jx_Ev d 70 61 [l0, some (.int x)] st M Q ↔ jx_Ev d 70 62 [l0, some (.int x)] (.int x :: st) M Q) ∧
  (∀ (d : Nat) (lv : List (Option Value)) (M : jx_M) (Q : jx_Po) (a0 : Int32), jx_Ev (d + 1) 70 62 lv [.int a0, .ref 0] M Q ↔ jx_I d 73 [.ref 0, .int a0] M (fun x M => jx_Ev (d + 1) 70 65 lv (.int x :: []) M Q)) ∧
  (∀ (d : Nat) (lv : List (Option Value)) (M : jx_M) (Q : jx_Po) (x : Int32), jx_Ev d 70 65 lv [.int x] M Q ↔ Q [.int x] M) := by
  refine ⟨?_, ?_, ?_, ?_, ?_, ?_, ?_, ?_, ?_, ?_, ?_, ?_, ?_, ?_, ?_, ?_, ?_, ?_, ?_, ?_, ?_, ?_, ?_, ?_, ?_⟩
  · exact fun d st M Q l1 x => jx_ev_st (jx_fok (by decide +kernel : decode (jx_mb 70) 0 = .ok (.aload_n 0, 1))) rfl rfl rfl
  · exact fun d lv st M Q => jx_k_gf (jx_fok (by decide +kernel : decode (jx_mb 70) 1 = .ok (.getfield 55, 3))) rfl rfl rfl
  · exact fun d st M Q l0 x => jx_ev_st (jx_fok (by decide +kernel : decode (jx_mb 70) 4 = .ok (.iload_n 1, 1))) rfl rfl rfl
  · exact fun d lv M Q a0 a1 hk => jx_ev_ci (jx_fok (by decide +kernel : decode (jx_mb 70) 5 = .ok (.invokevirtual 111, 3))) rfl (jx_ccV (As := [.int a0]) (rest := []) rfl rfl rfl hk rfl rfl) (by decide)
  · exact fun d lv st M Q x => jx_k_b1n (jx_fok (by decide +kernel : decode (jx_mb 70) 8 = .ok (.ifCond .ne 5, 3))) rfl jx_hNe
  · exact fun d lv st M Q => jx_ev_st (jx_fok (by decide +kernel : decode (jx_mb 70) 11 = .ok (.iconst (-1), 1))) rfl rfl rfl
  · exact fun d lv M Q x => jx_k_ri (jx_fok (by decide +kernel : decode (jx_mb 70) 12 = .ok (.ireturn, 1))) rfl
  · exact fun d st M Q l1 x => jx_ev_st (jx_fok (by decide +kernel : decode (jx_mb 70) 13 = .ok (.aload_n 0, 1))) rfl rfl rfl
  · exact fun d lv st M Q => jx_k_gf (jx_fok (by decide +kernel : decode (jx_mb 70) 14 = .ok (.getfield 55, 3))) rfl rfl rfl
  · exact fun d lv st M Q k hk => jx_k_gf (jx_fok (by decide +kernel : decode (jx_mb 70) 17 = .ok (.getfield 114, 3))) rfl hk rfl
  · exact fun d st M Q l0 x => jx_ev_st (jx_fok (by decide +kernel : decode (jx_mb 70) 20 = .ok (.iload_n 1, 1))) rfl rfl rfl
  · exact fun d lv st M Q x a ha => jx_k_al (jx_fok (by decide +kernel : decode (jx_mb 70) 21 = .ok (.iaload, 1))) ha
  · intro d lv st M Q x
    by_cases h0 : x = 1
    · subst h0; rw [if_pos rfl]; exact jx_k_lsw (jx_fok (by decide +kernel : decode (jx_mb 70) 22 = .ok (.lookupswitch 38 #[(1, 32), (2, 26)], 26))) (by decide) rfl
    rw [if_neg h0]
    by_cases h1 : x = 2
    · subst h1; rw [if_pos rfl]; exact jx_k_lsw (jx_fok (by decide +kernel : decode (jx_mb 70) 22 = .ok (.lookupswitch 38 #[(1, 32), (2, 26)], 26))) (by decide) rfl
    rw [if_neg h1]
    exact jx_k_lsw (jx_fok (by decide +kernel : decode (jx_mb 70) 22 = .ok (.lookupswitch 38 #[(1, 32), (2, 26)], 26))) (by decide) (by rw [show Op.lookupswitch.offset _ _ _ = _ from (lv_osw h0 (by decide)).trans ((lv_osw h1 (by decide)).trans rfl)]; rfl)
  · exact fun d st M Q l1 x => jx_ev_st (jx_fok (by decide +kernel : decode (jx_mb 70) 48 = .ok (.aload_n 0, 1))) rfl rfl rfl
  · exact fun d st M Q l0 x => jx_ev_st (jx_fok (by decide +kernel : decode (jx_mb 70) 49 = .ok (.iload_n 1, 1))) rfl rfl rfl
  · exact fun d lv M Q a0 => jx_ev_ci (jx_fok (by decide +kernel : decode (jx_mb 70) 50 = .ok (.invokevirtual 234, 3))) rfl (jx_ccV (As := [.int a0]) (rest := []) rfl rfl rfl rfl rfl rfl) (by decide)
  · exact fun d lv M Q x => jx_k_ri (jx_fok (by decide +kernel : decode (jx_mb 70) 53 = .ok (.ireturn, 1))) rfl
  · exact fun d st M Q l1 x => jx_ev_st (jx_fok (by decide +kernel : decode (jx_mb 70) 54 = .ok (.aload_n 0, 1))) rfl rfl rfl
  · exact fun d st M Q l0 x => jx_ev_st (jx_fok (by decide +kernel : decode (jx_mb 70) 55 = .ok (.iload_n 1, 1))) rfl rfl rfl
  · exact fun d lv M Q a0 => jx_ev_ci (jx_fok (by decide +kernel : decode (jx_mb 70) 56 = .ok (.invokevirtual 237, 3))) rfl (jx_ccV (As := [.int a0]) (rest := []) rfl rfl rfl rfl rfl rfl) (by decide)
  · exact fun d lv M Q x => jx_k_ri (jx_fok (by decide +kernel : decode (jx_mb 70) 59 = .ok (.ireturn, 1))) rfl
  · exact fun d st M Q l1 x => jx_ev_st (jx_fok (by decide +kernel : decode (jx_mb 70) 60 = .ok (.aload_n 0, 1))) rfl rfl rfl
  · exact fun d st M Q l0 x => jx_ev_st (jx_fok (by decide +kernel : decode (jx_mb 70) 61 = .ok (.iload_n 1, 1))) rfl rfl rfl
  · exact fun d lv M Q a0 => jx_ev_ci (jx_fok (by decide +kernel : decode (jx_mb 70) 62 = .ok (.invokevirtual 240, 3))) rfl (jx_ccV (As := [.int a0]) (rest := []) rfl rfl rfl rfl rfl rfl) (by decide)
  · exact fun d lv M Q x => jx_k_ri (jx_fok (by decide +kernel : decode (jx_mb 70) 65 = .ok (.ireturn, 1))) rfl
theorem kX7_tell (d : Nat) (M : jx_M) (q : Int32 → jx_M → Prop) (a0 a1 : Value) : jx_I d 70 [a0, a1] M q ↔ jx_Ev d 70 0 [some a0, some a1] [] M (jx_qI q) := Iff.rfl
set_option maxRecDepth 100000 in
theorem eX7_boomingBody :
  (∀ (d : Nat) (st : List Value) (M : jx_M) (Q : jx_Po) (l1 l2 : Option Value) (x : Nat), jx_Ev d 71 0 [some (.ref x), l1, l2] st M Q ↔ jx_Ev d 71 1 [some (.ref x), l1, l2] (.ref x :: st) M Q) ∧
  (∀ (d : Nat) (lv : List (Option Value)) (st : List Value) (M : jx_M) (Q : jx_Po), jx_Ev d 71 1 lv st M Q ↔ jx_Ev d 71 2 lv (.int 3 :: st) M Q) ∧
  (∀ (d : Nat) (lv : List (Option Value)) (M : jx_M) (Q : jx_Po) (a0 : Int32), jx_Ev (d + 1) 71 2 lv [.int a0, .ref 0] M Q ↔ jx_V d 74 [.ref 0, .int a0] M (fun M => jx_Ev (d + 1) 71 5 lv [] M Q)) ∧
  (∀ (d : Nat) (st : List Value) (M : jx_M) (Q : jx_Po) (l1 l2 : Option Value) (x : Nat), jx_Ev d 71 5 [some (.ref x), l1, l2] st M Q ↔ jx_Ev d 71 6 [some (.ref x), l1, l2] (.ref x :: st) M Q) ∧
  (∀ (d : Nat) (st : List Value) (M : jx_M) (Q : jx_Po) (l0 l2 : Option Value) (x : Int32), jx_Ev d 71 6 [l0, some (.int x), l2] st M Q ↔ jx_Ev d 71 7 [l0, some (.int x), l2] (.int x :: st) M Q) ∧
  (∀ (d : Nat) (lv : List (Option Value)) (M : jx_M) (Q : jx_Po) (a0 : Int32), jx_Ev (d + 1) 71 7 lv [.int a0, .ref 0] M Q ↔ jx_I d 72 [.ref 0, .int a0] M (fun x M => jx_Ev (d + 1) 71 10 lv (.int x :: []) M Q)) ∧
  (∀ (d : Nat) (st : List Value) (M : jx_M) (Q : jx_Po) (l0 l1 l2 : Option Value) (x : Int32), jx_Ev d 71 10 [l0, l1, l2] (.int x :: st) M Q ↔ jx_Ev d 71 11 [l0, l1, some (.int x)] st M Q) ∧
  (∀ (d : Nat) (st : List Value) (M : jx_M) (Q : jx_Po) (l0 l1 : Option Value) (x : Int32), jx_Ev d 71 11 [l0, l1, some (.int x)] st M Q ↔ jx_Ev d 71 12 [l0, l1, some (.int x)] (.int x :: st) M Q) ∧
  (∀ (d : Nat) (st : List Value) (M : jx_M) (Q : jx_Po) (l1 l2 : Option Value) (x : Nat), jx_Ev d 71 12 [some (.ref x), l1, l2] st M Q ↔ jx_Ev d 71 13 [some (.ref x), l1, l2] (.ref x :: st) M Q) ∧
  (∀ (d : Nat) (st : List Value) (M : jx_M) (Q : jx_Po) (l0 l2 : Option Value) (x : Int32), jx_Ev d 71 13 [l0, some (.int x), l2] st M Q ↔ jx_Ev d 71 14 [l0, some (.int x), l2] (.int x :: st) M Q) ∧
  (∀ (d : Nat) (lv : List (Option Value)) (M : jx_M) (Q : jx_Po) (a0 : Int32) (a2 : Int32), jx_Ev (d + 1) 71 14 lv [.int a0, .ref 0, .int a2] M Q ↔ jx_I d 73 [.ref 0, .int a0] M (fun x M => jx_Ev (d + 1) 71 17 lv (.int x :: [.int a2]) M Q)) ∧
  (∀ (d : Nat) (lv : List (Option Value)) (st : List Value) (M : jx_M) (Q : jx_Po) (x z : Int32), jx_Ev d 71 17 lv (.int z :: .int x :: st) M Q ↔ jx_Ev d 71 18 lv (.int (x + z) :: st) M Q) ∧
  (∀ (d : Nat) (lv : List (Option Value)) (M : jx_M) (Q : jx_Po) (x : Int32), jx_Ev d 71 18 lv [.int x] M Q ↔ Q [.int x] M) := by
  refine ⟨?_, ?_, ?_, ?_, ?_, ?_, ?_, ?_, ?_, ?_, ?_, ?_, ?_⟩
  · exact fun d st M Q l1 l2 x => jx_ev_st (jx_fok (by decide +kernel : decode (jx_mb 71) 0 = .ok (.aload_n 0, 1))) rfl rfl rfl
  · exact fun d lv st M Q => jx_ev_st (jx_fok (by decide +kernel : decode (jx_mb 71) 1 = .ok (.iconst 3, 1))) rfl rfl rfl
  · exact fun d lv M Q a0 => jx_ev_cv (jx_fok (by decide +kernel : decode (jx_mb 71) 2 = .ok (.invokevirtual 243, 3))) rfl (jx_ccV (As := [.int a0]) (rest := []) rfl rfl rfl rfl rfl rfl) rfl
  · exact fun d st M Q l1 l2 x => jx_ev_st (jx_fok (by decide +kernel : decode (jx_mb 71) 5 = .ok (.aload_n 0, 1))) rfl rfl rfl
  · exact fun d st M Q l0 l2 x => jx_ev_st (jx_fok (by decide +kernel : decode (jx_mb 71) 6 = .ok (.iload_n 1, 1))) rfl rfl rfl
  · exact fun d lv M Q a0 => jx_ev_ci (jx_fok (by decide +kernel : decode (jx_mb 71) 7 = .ok (.invokevirtual 237, 3))) rfl (jx_ccV (As := [.int a0]) (rest := []) rfl rfl rfl rfl rfl rfl) (by decide)
  · exact fun d st M Q l0 l1 l2 x => jx_ev_st (jx_fok (by decide +kernel : decode (jx_mb 71) 10 = .ok (.istore_n 2, 1))) rfl rfl rfl
  · exact fun d st M Q l0 l1 x => jx_ev_st (jx_fok (by decide +kernel : decode (jx_mb 71) 11 = .ok (.iload_n 2, 1))) rfl rfl rfl
  · exact fun d st M Q l1 l2 x => jx_ev_st (jx_fok (by decide +kernel : decode (jx_mb 71) 12 = .ok (.aload_n 0, 1))) rfl rfl rfl
  · exact fun d st M Q l0 l2 x => jx_ev_st (jx_fok (by decide +kernel : decode (jx_mb 71) 13 = .ok (.iload_n 1, 1))) rfl rfl rfl
  · exact fun d lv M Q a0 a2 => jx_ev_ci (jx_fok (by decide +kernel : decode (jx_mb 71) 14 = .ok (.invokevirtual 240, 3))) rfl (jx_ccV (As := [.int a0]) (rest := [.int a2]) rfl rfl rfl rfl rfl rfl) (by decide)
  · exact fun d lv st M Q x z => jx_ev_st (jx_fok (by decide +kernel : decode (jx_mb 71) 17 = .ok (.iadd, 1))) rfl rfl rfl
  · exact fun d lv M Q x => jx_k_ri (jx_fok (by decide +kernel : decode (jx_mb 71) 18 = .ok (.ireturn, 1))) rfl
theorem kX7_boomingBody (d : Nat) (M : jx_M) (q : Int32 → jx_M → Prop) (a0 a1 : Value) : jx_I d 71 [a0, a1] M q ↔ jx_Ev d 71 0 [some a0, some a1, none] [] M (jx_qI q) := Iff.rfl
set_option maxRecDepth 100000 in
theorem eX7_dryBody :
  (∀ (d : Nat) (st : List Value) (M : jx_M) (Q : jx_Po) (l1 : Option Value) (x : Nat), jx_Ev d 72 0 [some (.ref x), l1] st M Q ↔ jx_Ev d 72 1 [some (.ref x), l1] (.ref x :: st) M Q) ∧
  (∀ (d : Nat) (lv : List (Option Value)) (st : List Value) (M : jx_M) (Q : jx_Po), jx_Ev d 72 1 lv st M Q ↔ jx_Ev d 72 2 lv (.int 2 :: st) M Q) ∧
  (∀ (d : Nat) (lv : List (Option Value)) (M : jx_M) (Q : jx_Po) (a0 : Int32), jx_Ev (d + 1) 72 2 lv [.int a0, .ref 0] M Q ↔ jx_V d 74 [.ref 0, .int a0] M (fun M => jx_Ev (d + 1) 72 5 lv [] M Q)) ∧
  (∀ (d : Nat) (st : List Value) (M : jx_M) (Q : jx_Po) (l1 : Option Value) (x : Nat), jx_Ev d 72 5 [some (.ref x), l1] st M Q ↔ jx_Ev d 72 6 [some (.ref x), l1] (.ref x :: st) M Q) ∧
  (∀ (d : Nat) (st : List Value) (M : jx_M) (Q : jx_Po) (l0 : Option Value) (x : Int32), jx_Ev d 72 6 [l0, some (.int x)] st M Q ↔ jx_Ev d 72 7 [l0, some (.int x)] (.int x :: st) M Q) ∧
  (∀ (d : Nat) (lv : List (Option Value)) (M : jx_M) (Q : jx_Po) (a0 : Int32), jx_Ev (d + 1) 72 7 lv [.int a0, .ref 0] M Q ↔ jx_I d 73 [.ref 0, .int a0] M (fun x M => jx_Ev (d + 1) 72 10 lv (.int x :: []) M Q)) ∧
  (∀ (d : Nat) (lv : List (Option Value)) (st : List Value) (M : jx_M) (Q : jx_Po), jx_Ev d 72 10 lv st M Q ↔ jx_Ev d 72 12 lv (.int 100 :: st) M Q) ∧
  (∀ (d : Nat) (lv : List (Option Value)) (st : List Value) (M : jx_M) (Q : jx_Po) (x z : Int32), jx_Ev d 72 12 lv (.int z :: .int x :: st) M Q ↔ jx_Ev d 72 13 lv (.int (x + z) :: st) M Q) ∧
  (∀ (d : Nat) (lv : List (Option Value)) (M : jx_M) (Q : jx_Po) (x : Int32), jx_Ev d 72 13 lv [.int x] M Q ↔ Q [.int x] M) := by
  refine ⟨?_, ?_, ?_, ?_, ?_, ?_, ?_, ?_, ?_⟩
  · exact fun d st M Q l1 x => jx_ev_st (jx_fok (by decide +kernel : decode (jx_mb 72) 0 = .ok (.aload_n 0, 1))) rfl rfl rfl
  · exact fun d lv st M Q => jx_ev_st (jx_fok (by decide +kernel : decode (jx_mb 72) 1 = .ok (.iconst 2, 1))) rfl rfl rfl
  · exact fun d lv M Q a0 => jx_ev_cv (jx_fok (by decide +kernel : decode (jx_mb 72) 2 = .ok (.invokevirtual 243, 3))) rfl (jx_ccV (As := [.int a0]) (rest := []) rfl rfl rfl rfl rfl rfl) rfl
  · exact fun d st M Q l1 x => jx_ev_st (jx_fok (by decide +kernel : decode (jx_mb 72) 5 = .ok (.aload_n 0, 1))) rfl rfl rfl
  · exact fun d st M Q l0 x => jx_ev_st (jx_fok (by decide +kernel : decode (jx_mb 72) 6 = .ok (.iload_n 1, 1))) rfl rfl rfl
  · exact fun d lv M Q a0 => jx_ev_ci (jx_fok (by decide +kernel : decode (jx_mb 72) 7 = .ok (.invokevirtual 240, 3))) rfl (jx_ccV (As := [.int a0]) (rest := []) rfl rfl rfl rfl rfl rfl) (by decide)
  · exact fun d lv st M Q => jx_ev_st (jx_fok (by decide +kernel : decode (jx_mb 72) 10 = .ok (.bipush 100, 2))) rfl rfl rfl
  · exact fun d lv st M Q x z => jx_ev_st (jx_fok (by decide +kernel : decode (jx_mb 72) 12 = .ok (.iadd, 1))) rfl rfl rfl
  · exact fun d lv M Q x => jx_k_ri (jx_fok (by decide +kernel : decode (jx_mb 72) 13 = .ok (.ireturn, 1))) rfl
theorem kX7_dryBody (d : Nat) (M : jx_M) (q : Int32 → jx_M → Prop) (a0 a1 : Value) : jx_I d 72 [a0, a1] M q ↔ jx_Ev d 72 0 [some a0, some a1] [] M (jx_qI q) := Iff.rfl
set_option maxRecDepth 100000 in
theorem eX7_clapBody :
  (∀ (d : Nat) (st : List Value) (M : jx_M) (Q : jx_Po) (l1 : Option Value) (x : Nat), jx_Ev d 73 0 [some (.ref x), l1] st M Q ↔ jx_Ev d 73 1 [some (.ref x), l1] (.ref x :: st) M Q) ∧
  (∀ (d : Nat) (lv : List (Option Value)) (st : List Value) (M : jx_M) (Q : jx_Po), jx_Ev d 73 1 lv st M Q ↔ jx_Ev d 73 2 lv (.int 1 :: st) M Q) ∧
  (∀ (d : Nat) (lv : List (Option Value)) (M : jx_M) (Q : jx_Po) (a0 : Int32), jx_Ev (d + 1) 73 2 lv [.int a0, .ref 0] M Q ↔ jx_V d 74 [.ref 0, .int a0] M (fun M => jx_Ev (d + 1) 73 5 lv [] M Q)) ∧
  (∀ (d : Nat) (st : List Value) (M : jx_M) (Q : jx_Po) (l1 : Option Value) (x : Nat), jx_Ev d 73 5 [some (.ref x), l1] st M Q ↔ jx_Ev d 73 6 [some (.ref x), l1] (.ref x :: st) M Q) ∧
  (∀ (d : Nat) (lv : List (Option Value)) (st : List Value) (M : jx_M) (Q : jx_Po), jx_Ev d 73 6 lv (.ref 0 :: st) M Q ↔ jx_Ev d 73 9 lv (jx_rv (M 0 6) :: st) M Q) ∧
  (∀ (d : Nat) (lv : List (Option Value)) (st : List Value) (M : jx_M) (Q : jx_Po) (k : Nat) (hk : jx_cl k = 1), jx_Ev d 73 9 lv (.ref k :: st) M Q ↔ jx_Ev d 73 12 lv (.ref (k + 4) :: st) M Q) ∧
  (∀ (d : Nat) (st : List Value) (M : jx_M) (Q : jx_Po) (l0 : Option Value) (x : Int32), jx_Ev d 73 12 [l0, some (.int x)] st M Q ↔ jx_Ev d 73 13 [l0, some (.int x)] (.int x :: st) M Q) ∧
  (∀ (d : Nat) (lv : List (Option Value)) (st : List Value) (M : jx_M) (Q : jx_Po) (x : Int32) (a : Nat) (ha : jx_cl a = 9), jx_Ev d 73 13 lv (.int x :: .ref a :: st) M Q ↔ (vp_in x (jx_sz a) ∧ jx_Ev d 73 14 lv (.int (M a x.toNatClampNeg) :: st) M Q)) ∧
  (∀ (d : Nat) (lv : List (Option Value)) (M : jx_M) (Q : jx_Po) (x : Int32), jx_Ev d 73 14 lv [.int x] M Q ↔ Q [.int x] M) := by
  refine ⟨?_, ?_, ?_, ?_, ?_, ?_, ?_, ?_, ?_⟩
  · exact fun d st M Q l1 x => jx_ev_st (jx_fok (by decide +kernel : decode (jx_mb 73) 0 = .ok (.aload_n 0, 1))) rfl rfl rfl
  · exact fun d lv st M Q => jx_ev_st (jx_fok (by decide +kernel : decode (jx_mb 73) 1 = .ok (.iconst 1, 1))) rfl rfl rfl
  · exact fun d lv M Q a0 => jx_ev_cv (jx_fok (by decide +kernel : decode (jx_mb 73) 2 = .ok (.invokevirtual 243, 3))) rfl (jx_ccV (As := [.int a0]) (rest := []) rfl rfl rfl rfl rfl rfl) rfl
  · exact fun d st M Q l1 x => jx_ev_st (jx_fok (by decide +kernel : decode (jx_mb 73) 5 = .ok (.aload_n 0, 1))) rfl rfl rfl
  · exact fun d lv st M Q => jx_k_gf (jx_fok (by decide +kernel : decode (jx_mb 73) 6 = .ok (.getfield 55, 3))) rfl rfl rfl
  · exact fun d lv st M Q k hk => jx_k_gf (jx_fok (by decide +kernel : decode (jx_mb 73) 9 = .ok (.getfield 117, 3))) rfl hk rfl
  · exact fun d st M Q l0 x => jx_ev_st (jx_fok (by decide +kernel : decode (jx_mb 73) 12 = .ok (.iload_n 1, 1))) rfl rfl rfl
  · exact fun d lv st M Q x a ha => jx_k_al (jx_fok (by decide +kernel : decode (jx_mb 73) 13 = .ok (.iaload, 1))) ha
  · exact fun d lv M Q x => jx_k_ri (jx_fok (by decide +kernel : decode (jx_mb 73) 14 = .ok (.ireturn, 1))) rfl
theorem kX7_clapBody (d : Nat) (M : jx_M) (q : Int32 → jx_M → Prop) (a0 a1 : Value) : jx_I d 73 [a0, a1] M q ↔ jx_Ev d 73 0 [some a0, some a1] [] M (jx_qI q) := Iff.rfl
set_option maxRecDepth 100000 in
theorem eX7_leaveInTrace :
  (∀ (d : Nat) (st : List Value) (M : jx_M) (Q : jx_Po) (l1 : Option Value) (x : Nat), jx_Ev d 74 0 [some (.ref x), l1] st M Q ↔ jx_Ev d 74 1 [some (.ref x), l1] (.ref x :: st) M Q) ∧
  (∀ (d : Nat) (lv : List (Option Value)) (st : List Value) (M : jx_M) (Q : jx_Po), jx_Ev d 74 1 lv st M Q ↔ jx_Ev d 74 3 lv (.int 31 :: st) M Q) ∧
  (∀ (d : Nat) (st : List Value) (M : jx_M) (Q : jx_Po) (l1 : Option Value) (x : Nat), jx_Ev d 74 3 [some (.ref x), l1] st M Q ↔ jx_Ev d 74 4 [some (.ref x), l1] (.ref x :: st) M Q) ∧
  (∀ (d : Nat) (lv : List (Option Value)) (st : List Value) (M : jx_M) (Q : jx_Po), jx_Ev d 74 4 lv (.ref 0 :: st) M Q ↔ jx_Ev d 74 7 lv (.int (M 0 8) :: st) M Q) ∧
  (∀ (d : Nat) (lv : List (Option Value)) (st : List Value) (M : jx_M) (Q : jx_Po) (x z : Int32), jx_Ev d 74 7 lv (.int z :: .int x :: st) M Q ↔ jx_Ev d 74 8 lv (.int (x * z) :: st) M Q) ∧
  (∀ (d : Nat) (st : List Value) (M : jx_M) (Q : jx_Po) (l0 : Option Value) (x : Int32), jx_Ev d 74 8 [l0, some (.int x)] st M Q ↔ jx_Ev d 74 9 [l0, some (.int x)] (.int x :: st) M Q) ∧
  (∀ (d : Nat) (lv : List (Option Value)) (st : List Value) (M : jx_M) (Q : jx_Po) (x z : Int32), jx_Ev d 74 9 lv (.int z :: .int x :: st) M Q ↔ jx_Ev d 74 10 lv (.int (x + z) :: st) M Q) ∧
  (∀ (d : Nat) (lv : List (Option Value)) (st : List Value) (M : jx_M) (Q : jx_Po) (x : Int32), jx_Ev d 74 10 lv (.int x :: .ref 0 :: st) M Q ↔ jx_Ev d 74 13 lv st (jx_up M 0 8 x) Q) ∧
  (∀ (d : Nat) (lv : List (Option Value)) (M : jx_M) (Q : jx_Po), jx_Ev d 74 13 lv [] M Q ↔ Q [] M) := by
  refine ⟨?_, ?_, ?_, ?_, ?_, ?_, ?_, ?_, ?_⟩
  · exact fun d st M Q l1 x => jx_ev_st (jx_fok (by decide +kernel : decode (jx_mb 74) 0 = .ok (.aload_n 0, 1))) rfl rfl rfl
  · exact fun d lv st M Q => jx_ev_st (jx_fok (by decide +kernel : decode (jx_mb 74) 1 = .ok (.bipush 31, 2))) rfl rfl rfl
  · exact fun d st M Q l1 x => jx_ev_st (jx_fok (by decide +kernel : decode (jx_mb 74) 3 = .ok (.aload_n 0, 1))) rfl rfl rfl
  · exact fun d lv st M Q => jx_k_gf (jx_fok (by decide +kernel : decode (jx_mb 74) 4 = .ok (.getfield 62, 3))) rfl rfl rfl
  · exact fun d lv st M Q x z => jx_ev_st (jx_fok (by decide +kernel : decode (jx_mb 74) 7 = .ok (.imul, 1))) rfl rfl rfl
  · exact fun d st M Q l0 x => jx_ev_st (jx_fok (by decide +kernel : decode (jx_mb 74) 8 = .ok (.iload_n 1, 1))) rfl rfl rfl
  · exact fun d lv st M Q x z => jx_ev_st (jx_fok (by decide +kernel : decode (jx_mb 74) 9 = .ok (.iadd, 1))) rfl rfl rfl
  · exact fun d lv st M Q x => jx_k_pf0 (jx_fok (by decide +kernel : decode (jx_mb 74) 10 = .ok (.putfield 62, 3))) rfl rfl rfl
  · exact fun d lv M Q => jx_k_rv (jx_fok (by decide +kernel : decode (jx_mb 74) 13 = .ok (.return_, 1))) rfl
theorem kX7_leaveInTrace (d : Nat) (M : jx_M) (q : jx_M → Prop) (a0 a1 : Value) : jx_V d 74 [a0, a1] M q ↔ jx_Ev d 74 0 [some a0, some a1] [] M (jx_qV q) := Iff.rfl
set_option maxRecDepth 100000 in
theorem eX7_cork :
  (∀ (d : Nat) (st : List Value) (M : jx_M) (Q : jx_Po) (l1 l2 : Option Value) (x : Nat), jx_Ev d 75 0 [some (.ref x), l1, l2] st M Q ↔ jx_Ev d 75 1 [some (.ref x), l1, l2] (.ref x :: st) M Q) ∧
  (∀ (d : Nat) (lv : List (Option Value)) (st : List Value) (M : jx_M) (Q : jx_Po), jx_Ev d 75 1 lv (.ref 0 :: st) M Q ↔ jx_Ev d 75 4 lv (jx_rv (M 0 6) :: st) M Q) ∧
  (∀ (d : Nat) (st : List Value) (M : jx_M) (Q : jx_Po) (l0 l2 : Option Value) (x : Int32), jx_Ev d 75 4 [l0, some (.int x), l2] st M Q ↔ jx_Ev d 75 5 [l0, some (.int x), l2] (.int x :: st) M Q) ∧
  (∀ (d : Nat) (lv : List (Option Value)) (M : jx_M) (Q : jx_Po) (a0 : Int32) (a1 : Nat) (hk : jx_cl a1 = 1), jx_Ev (d + 1) 75 5 lv [.int a0, .ref a1] M Q ↔ jx_I d 6 [.ref a1, .int a0] M (fun x M => jx_Ev (d + 1) 75 8 lv (.int x :: []) M Q)) ∧
  (∀ (d : Nat) (lv : List (Option Value)) (st : List Value) (M : jx_M) (Q : jx_Po) (x : Int32), jx_Ev d 75 8 lv (.int x :: st) M Q ↔ (if x = 0 then jx_Ev d 75 11 lv st M Q else jx_Ev d 75 13 lv st M Q)) ∧
  (∀ (d : Nat) (lv : List (Option Value)) (st : List Value) (M : jx_M) (Q : jx_Po), jx_Ev d 75 11 lv st M Q ↔ jx_Ev d 75 12 lv (.int (-1) :: st) M Q) ∧
  (∀ (d : Nat) (lv : List (Option Value)) (M : jx_M) (Q : jx_Po) (x : Int32), jx_Ev d 75 12 lv [.int x] M Q ↔ Q [.int x] M) ∧
  (∀ (d : Nat) (st : List Value) (M : jx_M) (Q : jx_Po) (l1 l2 : Option Value) (x : Nat), jx_Ev d 75 13 [some (.ref x), l1, l2] st M Q ↔ jx_Ev d 75 14 [some (.ref x), l1, l2] (.ref x :: st) M Q) ∧
  (∀ (d : Nat) (lv : List (Option Value)) (st : List Value) (M : jx_M) (Q : jx_Po), jx_Ev d 75 14 lv (.ref 0 :: st) M Q ↔ jx_Ev d 75 17 lv (jx_rv (M 0 6) :: st) M Q) ∧
  (∀ (d : Nat) (lv : List (Option Value)) (st : List Value) (M : jx_M) (Q : jx_Po) (k : Nat) (hk : jx_cl k = 1), jx_Ev d 75 17 lv (.ref k :: st) M Q ↔ jx_Ev d 75 20 lv (.ref (k + 3) :: st) M Q) ∧
  (∀ (d : Nat) (st : List Value) (M : jx_M) (Q : jx_Po) (l0 l2 : Option Value) (x : Int32), jx_Ev d 75 20 [l0, some (.int x), l2] st M Q ↔ jx_Ev d 75 21 [l0, some (.int x), l2] (.int x :: st) M Q) ∧
  (∀ (d : Nat) (lv : List (Option Value)) (st : List Value) (M : jx_M) (Q : jx_Po) (x : Int32) (a : Nat) (ha : jx_cl a = 9), jx_Ev d 75 21 lv (.int x :: .ref a :: st) M Q ↔ (vp_in x (jx_sz a) ∧ jx_Ev d 75 22 lv (.int (M a x.toNatClampNeg) :: st) M Q)) ∧
  (∀ (d : Nat) (lv : List (Option Value)) (st : List Value) (M : jx_M) (Q : jx_Po), jx_Ev d 75 22 lv st M Q ↔ jx_Ev d 75 23 lv (.int 2 :: st) M Q) ∧
  (∀ (d : Nat) (lv : List (Option Value)) (st : List Value) (M : jx_M) (Q : jx_Po) (x z : Int32), jx_Ev d 75 23 lv (.int z :: .int x :: st) M Q ↔ (if x = z then jx_Ev d 75 26 lv st M Q else jx_Ev d 75 30 lv st M Q)) ∧
  (∀ (d : Nat) (lv : List (Option Value)) (st : List Value) (M : jx_M) (Q : jx_Po), jx_Ev d 75 26 lv st M Q ↔ jx_Ev d 75 27 lv (.int 1 :: st) M Q) ∧
  (∀ (d : Nat) (lv : List (Option Value)) (st : List Value) (M : jx_M) (Q : jx_Po), jx_Ev d 75 27 lv st M Q ↔ jx_Ev d 75 31 lv st M Q) ∧
  (∀ (d : Nat) (lv : List (Option Value)) (st : List Value) (M : jx_M) (Q : jx_Po), jx_Ev d 75 30 lv st M Q ↔ jx_Ev d 75 31 lv (.int 0 :: st) M Q) ∧
  (∀ (d : Nat) (st : List Value) (M : jx_M) (Q : jx_Po) (l0 l1 l2 : Option Value) (x : Int32), jx_Ev d 75 31 [l0, l1, l2] (.int x :: st) M Q ↔ jx_Ev d 75 32 [l0, l1, some (.int x)] st M Q) ∧
  (∀ (d : Nat) (st : List Value) (M : jx_M) (Q : jx_Po) (l1 l2 : Option Value) (x : Nat), jx_Ev d 75 32 [some (.ref x), l1, l2] st M Q ↔ jx_Ev d 75 33 [some (.ref x), l1, l2] (.ref x :: st) M Q) ∧
  (∀ (d : Nat) (st : List Value) (M : jx_M) (Q : jx_Po) (l0 l1 : Option Value) (x : Int32), jx_Ev d 75 33 [l0, l1, some (.int x)] st M Q ↔ jx_Ev d 75 34 [l0, l1, some (.int x)] (.int x :: st) M Q) ∧
  (∀ (d : Nat) (lv : List (Option Value)) (st : List Value) (M : jx_M) (Q : jx_Po) (x : Int32), jx_Ev d 75 34 lv (.int x :: st) M Q ↔ (if x = 0 then jx_Ev d 75 41 lv st M Q else jx_Ev d 75 37 lv st M Q)) ∧
  (∀ (d : Nat) (lv : List (Option Value)) (st : List Value) (M : jx_M) (Q : jx_Po), jx_Ev d 75 37 lv st M Q ↔ jx_Ev d 75 38 lv (.int 5 :: st) M Q) ∧
  (∀ (d : Nat) (lv : List (Option Value)) (st : List Value) (M : jx_M) (Q : jx_Po), jx_Ev d 75 38 lv st M Q ↔ jx_Ev d 75 42 lv st M Q) ∧
  (∀ (d : Nat) (lv : List (Option Value)) (st : List Value) (M : jx_M) (Q : jx_Po), jx_Ev d 75 41 lv st M Q ↔ jx_Ev d 75 42 lv (.int 4 :: st) M Q) ∧
  (∀ (d : Nat) (lv : List (Option Value)) (M : jx_M) (Q : jx_Po) (a0 : Int32), jx_Ev (d + 1) 75 42 lv [.int a0, .ref 0] M Q ↔ jx_V d 74 [.ref 0, .int a0] M (fun M => jx_Ev (d + 1) 75 45 lv [] M Q)) ∧
  (∀ (d : Nat) (st : List Value) (M : jx_M) (Q : jx_Po) (l0 l1 : Option Value) (x : Int32), jx_Ev d 75 45 [l0, l1, some (.int x)] st M Q ↔ jx_Ev d 75 46 [l0, l1, some (.int x)] (.int x :: st) M Q) ∧
  (∀ (d : Nat) (lv : List (Option Value)) (st : List Value) (M : jx_M) (Q : jx_Po) (x : Int32), jx_Ev d 75 46 lv (.int x :: st) M Q ↔ (if x = 0 then jx_Ev d 75 54 lv st M Q else jx_Ev d 75 49 lv st M Q)) ∧
  (∀ (d : Nat) (lv : List (Option Value)) (st : List Value) (M : jx_M) (Q : jx_Po), jx_Ev d 75 49 lv st M Q ↔ jx_Ev d 75 51 lv (.int 60 :: st) M Q) ∧
  (∀ (d : Nat) (lv : List (Option Value)) (st : List Value) (M : jx_M) (Q : jx_Po), jx_Ev d 75 51 lv st M Q ↔ jx_Ev d 75 55 lv st M Q) ∧
  (∀ (d : Nat) (st : List Value) (M : jx_M) (Q : jx_Po) (l0 l2 : Option Value) (x : Int32), jx_Ev d 75 54 [l0, some (.int x), l2] st M Q ↔ jx_Ev d 75 55 [l0, some (.int x), l2] (.int x :: st) M Q) ∧
  (∀ (d : Nat) (lv : List (Option Value)) (M : jx_M) (Q : jx_Po) (x : Int32), jx_Ev d 75 55 lv [.int x] M Q ↔ Q [.int x] M) := by
  refine ⟨?_, ?_, ?_, ?_, ?_, ?_, ?_, ?_, ?_, ?_, ?_, ?_, ?_, ?_, ?_, ?_, ?_, ?_, ?_, ?_, ?_, ?_, ?_, ?_, ?_, ?_, ?_, ?_, ?_, ?_, ?_⟩
  · exact fun d st M Q l1 l2 x => jx_ev_st (jx_fok (by decide +kernel : decode (jx_mb 75) 0 = .ok (.aload_n 0, 1))) rfl rfl rfl
  · exact fun d lv st M Q => jx_k_gf (jx_fok (by decide +kernel : decode (jx_mb 75) 1 = .ok (.getfield 55, 3))) rfl rfl rfl
  · exact fun d st M Q l0 l2 x => jx_ev_st (jx_fok (by decide +kernel : decode (jx_mb 75) 4 = .ok (.iload_n 1, 1))) rfl rfl rfl
  · exact fun d lv M Q a0 a1 hk => jx_ev_ci (jx_fok (by decide +kernel : decode (jx_mb 75) 5 = .ok (.invokevirtual 111, 3))) rfl (jx_ccV (As := [.int a0]) (rest := []) rfl rfl rfl hk rfl rfl) (by decide)
  · exact fun d lv st M Q x => jx_k_b1n (jx_fok (by decide +kernel : decode (jx_mb 75) 8 = .ok (.ifCond .ne 5, 3))) rfl jx_hNe
  · exact fun d lv st M Q => jx_ev_st (jx_fok (by decide +kernel : decode (jx_mb 75) 11 = .ok (.iconst (-1), 1))) rfl rfl rfl
  · exact fun d lv M Q x => jx_k_ri (jx_fok (by decide +kernel : decode (jx_mb 75) 12 = .ok (.ireturn, 1))) rfl
  · exact fun d st M Q l1 l2 x => jx_ev_st (jx_fok (by decide +kernel : decode (jx_mb 75) 13 = .ok (.aload_n 0, 1))) rfl rfl rfl
  · exact fun d lv st M Q => jx_k_gf (jx_fok (by decide +kernel : decode (jx_mb 75) 14 = .ok (.getfield 55, 3))) rfl rfl rfl
  · exact fun d lv st M Q k hk => jx_k_gf (jx_fok (by decide +kernel : decode (jx_mb 75) 17 = .ok (.getfield 114, 3))) rfl hk rfl
  · exact fun d st M Q l0 l2 x => jx_ev_st (jx_fok (by decide +kernel : decode (jx_mb 75) 20 = .ok (.iload_n 1, 1))) rfl rfl rfl
  · exact fun d lv st M Q x a ha => jx_k_al (jx_fok (by decide +kernel : decode (jx_mb 75) 21 = .ok (.iaload, 1))) ha
  · exact fun d lv st M Q => jx_ev_st (jx_fok (by decide +kernel : decode (jx_mb 75) 22 = .ok (.iconst 2, 1))) rfl rfl rfl
  · exact fun d lv st M Q x z => jx_k_b2n (jx_fok (by decide +kernel : decode (jx_mb 75) 23 = .ok (.if_icmp .ne 7, 3))) rfl jx_hNe
  · exact fun d lv st M Q => jx_ev_st (jx_fok (by decide +kernel : decode (jx_mb 75) 26 = .ok (.iconst 1, 1))) rfl rfl rfl
  · exact fun d lv st M Q => jx_k_goto (jx_fok (by decide +kernel : decode (jx_mb 75) 27 = .ok (.goto 4, 3))) rfl
  · exact fun d lv st M Q => jx_ev_st (jx_fok (by decide +kernel : decode (jx_mb 75) 30 = .ok (.iconst 0, 1))) rfl rfl rfl
  · exact fun d st M Q l0 l1 l2 x => jx_ev_st (jx_fok (by decide +kernel : decode (jx_mb 75) 31 = .ok (.istore_n 2, 1))) rfl rfl rfl
  · exact fun d st M Q l1 l2 x => jx_ev_st (jx_fok (by decide +kernel : decode (jx_mb 75) 32 = .ok (.aload_n 0, 1))) rfl rfl rfl
  · exact fun d st M Q l0 l1 x => jx_ev_st (jx_fok (by decide +kernel : decode (jx_mb 75) 33 = .ok (.iload_n 2, 1))) rfl rfl rfl
  · exact fun d lv st M Q x => jx_k_b1 (jx_fok (by decide +kernel : decode (jx_mb 75) 34 = .ok (.ifCond .eq 7, 3))) rfl jx_hEq
  · exact fun d lv st M Q => jx_ev_st (jx_fok (by decide +kernel : decode (jx_mb 75) 37 = .ok (.iconst 5, 1))) rfl rfl rfl
  · exact fun d lv st M Q => jx_k_goto (jx_fok (by decide +kernel : decode (jx_mb 75) 38 = .ok (.goto 4, 3))) rfl
  · exact fun d lv st M Q => jx_ev_st (jx_fok (by decide +kernel : decode (jx_mb 75) 41 = .ok (.iconst 4, 1))) rfl rfl rfl
  · exact fun d lv M Q a0 => jx_ev_cv (jx_fok (by decide +kernel : decode (jx_mb 75) 42 = .ok (.invokevirtual 243, 3))) rfl (jx_ccV (As := [.int a0]) (rest := []) rfl rfl rfl rfl rfl rfl) rfl
  · exact fun d st M Q l0 l1 x => jx_ev_st (jx_fok (by decide +kernel : decode (jx_mb 75) 45 = .ok (.iload_n 2, 1))) rfl rfl rfl
  · exact fun d lv st M Q x => jx_k_b1 (jx_fok (by decide +kernel : decode (jx_mb 75) 46 = .ok (.ifCond .eq 8, 3))) rfl jx_hEq
  · exact fun d lv st M Q => jx_ev_st (jx_fok (by decide +kernel : decode (jx_mb 75) 49 = .ok (.bipush 60, 2))) rfl rfl rfl
  · exact fun d lv st M Q => jx_k_goto (jx_fok (by decide +kernel : decode (jx_mb 75) 51 = .ok (.goto 4, 3))) rfl
  · exact fun d st M Q l0 l2 x => jx_ev_st (jx_fok (by decide +kernel : decode (jx_mb 75) 54 = .ok (.iload_n 1, 1))) rfl rfl rfl
  · exact fun d lv M Q x => jx_k_ri (jx_fok (by decide +kernel : decode (jx_mb 75) 55 = .ok (.ireturn, 1))) rfl
theorem kX7_cork (d : Nat) (M : jx_M) (q : Int32 → jx_M → Prop) (a0 a1 : Value) : jx_I d 75 [a0, a1] M q ↔ jx_Ev d 75 0 [some a0, some a1, none] [] M (jx_qI q) := Iff.rfl
set_option maxRecDepth 100000 in
theorem eX7_as :
  (∀ (d : Nat) (st : List Value) (M : jx_M) (Q : jx_Po) (l1 l2 : Option Value) (x : Nat), jx_Ev d 76 0 [some (.ref x), l1, l2] st M Q ↔ jx_Ev d 76 1 [some (.ref x), l1, l2] (.ref x :: st) M Q) ∧
  (∀ (d : Nat) (lv : List (Option Value)) (st : List Value) (M : jx_M) (Q : jx_Po), jx_Ev d 76 1 lv st M Q ↔ jx_Ev d 76 2 lv (.int 0 :: st) M Q) ∧
  (∀ (d : Nat) (lv : List (Option Value)) (st : List Value) (M : jx_M) (Q : jx_Po) (x : Int32), jx_Ev d 76 2 lv (.int x :: .ref 0 :: st) M Q ↔ jx_Ev d 76 5 lv st (jx_up M 0 9 x) Q) ∧
  (∀ (d : Nat) (st : List Value) (M : jx_M) (Q : jx_Po) (l1 l2 : Option Value) (x : Nat), jx_Ev d 76 5 [some (.ref x), l1, l2] st M Q ↔ jx_Ev d 76 6 [some (.ref x), l1, l2] (.ref x :: st) M Q) ∧
  (∀ (d : Nat) (lv : List (Option Value)) (st : List Value) (M : jx_M) (Q : jx_Po), jx_Ev d 76 6 lv (.ref 0 :: st) M Q ↔ jx_Ev d 76 9 lv (jx_rv (M 0 6) :: st) M Q) ∧
  (∀ (d : Nat) (st : List Value) (M : jx_M) (Q : jx_Po) (l0 l2 : Option Value) (x : Int32), jx_Ev d 76 9 [l0, some (.int x), l2] st M Q ↔ jx_Ev d 76 10 [l0, some (.int x), l2] (.int x :: st) M Q) ∧
  (∀ (d : Nat) (lv : List (Option Value)) (M : jx_M) (Q : jx_Po) (a0 : Int32) (a1 : Nat) (hk : jx_cl a1 = 1), jx_Ev (d + 1) 76 10 lv [.int a0, .ref a1] M Q ↔ jx_I d 6 [.ref a1, .int a0] M (fun x M => jx_Ev (d + 1) 76 13 lv (.int x :: []) M Q)) ∧
  (∀ (d : Nat) (lv : List (Option Value)) (st : List Value) (M : jx_M) (Q : jx_Po) (x : Int32), jx_Ev d 76 13 lv (.int x :: st) M Q ↔ (if x = 0 then jx_Ev d 76 16 lv st M Q else jx_Ev d 76 18 lv st M Q)) ∧
  (∀ (d : Nat) (lv : List (Option Value)) (st : List Value) (M : jx_M) (Q : jx_Po), jx_Ev d 76 16 lv st M Q ↔ jx_Ev d 76 17 lv (.int (-1) :: st) M Q) ∧
  (∀ (d : Nat) (lv : List (Option Value)) (M : jx_M) (Q : jx_Po) (x : Int32), jx_Ev d 76 17 lv [.int x] M Q ↔ Q [.int x] M) ∧
  (∀ (d : Nat) (st : List Value) (M : jx_M) (Q : jx_Po) (l0 l1 : Option Value) (x : Int32), jx_Ev d 76 18 [l0, l1, some (.int x)] st M Q ↔ jx_Ev d 76 19 [l0, l1, some (.int x)] (.int x :: st) M Q) ∧
  (∀ (d : Nat) (lv : List (Option Value)) (st : List Value) (M : jx_M) (Q : jx_Po) (x : Int32), jx_Ev d 76 19 lv (.int x :: st) M Q ↔ (if x < 0 then jx_Ev d 76 27 lv st M Q else jx_Ev d 76 22 lv st M Q)) ∧
  (∀ (d : Nat) (st : List Value) (M : jx_M) (Q : jx_Po) (l0 l1 : Option Value) (x : Int32), jx_Ev d 76 22 [l0, l1, some (.int x)] st M Q ↔ jx_Ev d 76 23 [l0, l1, some (.int x)] (.int x :: st) M Q) ∧
  (∀ (d : Nat) (lv : List (Option Value)) (st : List Value) (M : jx_M) (Q : jx_Po), jx_Ev d 76 23 lv st M Q ↔ jx_Ev d 76 24 lv (.int 2 :: st) M Q) ∧
  (∀ (d : Nat) (lv : List (Option Value)) (st : List Value) (M : jx_M) (Q : jx_Po) (x z : Int32), jx_Ev d 76 24 lv (.int z :: .int x :: st) M Q ↔ (if x ≤ z then jx_Ev d 76 30 lv st M Q else jx_Ev d 76 27 lv st M Q)) ∧
  (∀ (d : Nat) (lv : List (Option Value)) (st : List Value) (M : jx_M) (Q : jx_Po), jx_Ev d 76 27 lv st M Q ↔ jx_Ev d 76 29 lv (.int (-2) :: st) M Q) ∧
  (∀ (d : Nat) (lv : List (Option Value)) (M : jx_M) (Q : jx_Po) (x : Int32), jx_Ev d 76 29 lv [.int x] M Q ↔ Q [.int x] M) ∧
  (∀ (d : Nat) (st : List Value) (M : jx_M) (Q : jx_Po) (l0 l1 : Option Value) (x : Int32), jx_Ev d 76 30 [l0, l1, some (.int x)] st M Q ↔ jx_Ev d 76 31 [l0, l1, some (.int x)] (.int x :: st) M Q) ∧
  (∀ (d : Nat) (st : List Value) (M : jx_M) (Q : jx_Po) (l1 l2 : Option Value) (x : Nat), jx_Ev d 76 31 [some (.ref x), l1, l2] st M Q ↔ jx_Ev d 76 32 [some (.ref x), l1, l2] (.ref x :: st) M Q) ∧
  (∀ (d : Nat) (lv : List (Option Value)) (st : List Value) (M : jx_M) (Q : jx_Po), jx_Ev d 76 32 lv (.ref 0 :: st) M Q ↔ jx_Ev d 76 35 lv (jx_rv (M 0 6) :: st) M Q) ∧
  (∀ (d : Nat) (lv : List (Option Value)) (st : List Value) (M : jx_M) (Q : jx_Po) (k : Nat) (hk : jx_cl k = 1), jx_Ev d 76 35 lv (.ref k :: st) M Q ↔ jx_Ev d 76 38 lv (.ref (k + 3) :: st) M Q) ∧
  (∀ (d : Nat) (st : List Value) (M : jx_M) (Q : jx_Po) (l0 l2 : Option Value) (x : Int32), jx_Ev d 76 38 [l0, some (.int x), l2] st M Q ↔ jx_Ev d 76 39 [l0, some (.int x), l2] (.int x :: st) M Q) ∧
  (∀ (d : Nat) (lv : List (Option Value)) (st : List Value) (M : jx_M) (Q : jx_Po) (x : Int32) (a : Nat) (ha : jx_cl a = 9), jx_Ev d 76 39 lv (.int x :: .ref a :: st) M Q ↔ (vp_in x (jx_sz a) ∧ jx_Ev d 76 40 lv (.int (M a x.toNatClampNeg) :: st) M Q)) ∧
  (∀ (d : Nat) (lv : List (Option Value)) (st : List Value) (M : jx_M) (Q : jx_Po) (x z : Int32), jx_Ev d 76 40 lv (.int z :: .int x :: st) M Q ↔ (if z < x then jx_Ev d 76 47 lv st M Q else jx_Ev d 76 43 lv st M Q)) ∧
  (∀ (d : Nat) (lv : List (Option Value)) (st : List Value) (M : jx_M) (Q : jx_Po), jx_Ev d 76 43 lv st M Q ↔ jx_Ev d 76 44 lv (.int 1 :: st) M Q) ∧
  (∀ (d : Nat) (lv : List (Option Value)) (st : List Value) (M : jx_M) (Q : jx_Po), jx_Ev d 76 44 lv st M Q ↔ jx_Ev d 76 52 lv st M Q) ∧
  (∀ (d : Nat) (st : List Value) (M : jx_M) (Q : jx_Po) (l1 l2 : Option Value) (x : Nat), jx_Ev d 76 47 [some (.ref x), l1, l2] st M Q ↔ jx_Ev d 76 48 [some (.ref x), l1, l2] (.ref x :: st) M Q) ∧
  (∀ (d : Nat) (lv : List (Option Value)) (st : List Value) (M : jx_M) (Q : jx_Po), jx_Ev d 76 48 lv st M Q ↔ jx_Ev d 76 49 lv (.int 2 :: st) M Q) ∧
  (∀ (d : Nat) (lv : List (Option Value)) (M : jx_M) (Q : jx_Po) (a0 : Int32), jx_Ev (d + 1) 76 49 lv [.int a0, .ref 0] M Q ↔ jx_I d 83 [.ref 0, .int a0] M (fun x M => jx_Ev (d + 1) 76 52 lv (.int x :: []) M Q)) ∧
  (∀ (d : Nat) (lv : List (Option Value)) (M : jx_M) (Q : jx_Po) (x : Int32), jx_Ev d 76 52 lv [.int x] M Q ↔ Q [.int x] M) := by
  refine ⟨?_, ?_, ?_, ?_, ?_, ?_, ?_, ?_, ?_, ?_, ?_, ?_, ?_, ?_, ?_, ?_, ?_, ?_, ?_, ?_, ?_, ?_, ?_, ?_, ?_, ?_, ?_, ?_, ?_, ?_⟩
  · exact fun d st M Q l1 l2 x => jx_ev_st (jx_fok (by decide +kernel : decode (jx_mb 76) 0 = .ok (.aload_n 0, 1))) rfl rfl rfl
  · exact fun d lv st M Q => jx_ev_st (jx_fok (by decide +kernel : decode (jx_mb 76) 1 = .ok (.iconst 0, 1))) rfl rfl rfl
  · exact fun d lv st M Q x => jx_k_pf0 (jx_fok (by decide +kernel : decode (jx_mb 76) 2 = .ok (.putfield 66, 3))) rfl rfl rfl
  · exact fun d st M Q l1 l2 x => jx_ev_st (jx_fok (by decide +kernel : decode (jx_mb 76) 5 = .ok (.aload_n 0, 1))) rfl rfl rfl
  · exact fun d lv st M Q => jx_k_gf (jx_fok (by decide +kernel : decode (jx_mb 76) 6 = .ok (.getfield 55, 3))) rfl rfl rfl
  · exact fun d st M Q l0 l2 x => jx_ev_st (jx_fok (by decide +kernel : decode (jx_mb 76) 9 = .ok (.iload_n 1, 1))) rfl rfl rfl
  · exact fun d lv M Q a0 a1 hk => jx_ev_ci (jx_fok (by decide +kernel : decode (jx_mb 76) 10 = .ok (.invokevirtual 111, 3))) rfl (jx_ccV (As := [.int a0]) (rest := []) rfl rfl rfl hk rfl rfl) (by decide)
  · exact fun d lv st M Q x => jx_k_b1n (jx_fok (by decide +kernel : decode (jx_mb 76) 13 = .ok (.ifCond .ne 5, 3))) rfl jx_hNe
  · exact fun d lv st M Q => jx_ev_st (jx_fok (by decide +kernel : decode (jx_mb 76) 16 = .ok (.iconst (-1), 1))) rfl rfl rfl
  · exact fun d lv M Q x => jx_k_ri (jx_fok (by decide +kernel : decode (jx_mb 76) 17 = .ok (.ireturn, 1))) rfl
  · exact fun d st M Q l0 l1 x => jx_ev_st (jx_fok (by decide +kernel : decode (jx_mb 76) 18 = .ok (.iload_n 2, 1))) rfl rfl rfl
  · exact fun d lv st M Q x => jx_k_b1 (jx_fok (by decide +kernel : decode (jx_mb 76) 19 = .ok (.ifCond .lt 8, 3))) rfl jx_hLt
  · exact fun d st M Q l0 l1 x => jx_ev_st (jx_fok (by decide +kernel : decode (jx_mb 76) 22 = .ok (.iload_n 2, 1))) rfl rfl rfl
  · exact fun d lv st M Q => jx_ev_st (jx_fok (by decide +kernel : decode (jx_mb 76) 23 = .ok (.iconst 2, 1))) rfl rfl rfl
  · exact fun d lv st M Q x z => jx_k_b2 (jx_fok (by decide +kernel : decode (jx_mb 76) 24 = .ok (.if_icmp .le 6, 3))) rfl jx_hLe
  · exact fun d lv st M Q => jx_ev_st (jx_fok (by decide +kernel : decode (jx_mb 76) 27 = .ok (.bipush (-2), 2))) rfl rfl rfl
  · exact fun d lv M Q x => jx_k_ri (jx_fok (by decide +kernel : decode (jx_mb 76) 29 = .ok (.ireturn, 1))) rfl
  · exact fun d st M Q l0 l1 x => jx_ev_st (jx_fok (by decide +kernel : decode (jx_mb 76) 30 = .ok (.iload_n 2, 1))) rfl rfl rfl
  · exact fun d st M Q l1 l2 x => jx_ev_st (jx_fok (by decide +kernel : decode (jx_mb 76) 31 = .ok (.aload_n 0, 1))) rfl rfl rfl
  · exact fun d lv st M Q => jx_k_gf (jx_fok (by decide +kernel : decode (jx_mb 76) 32 = .ok (.getfield 55, 3))) rfl rfl rfl
  · exact fun d lv st M Q k hk => jx_k_gf (jx_fok (by decide +kernel : decode (jx_mb 76) 35 = .ok (.getfield 114, 3))) rfl hk rfl
  · exact fun d st M Q l0 l2 x => jx_ev_st (jx_fok (by decide +kernel : decode (jx_mb 76) 38 = .ok (.iload_n 1, 1))) rfl rfl rfl
  · exact fun d lv st M Q x a ha => jx_k_al (jx_fok (by decide +kernel : decode (jx_mb 76) 39 = .ok (.iaload, 1))) ha
  · exact fun d lv st M Q x z => jx_k_b2 (jx_fok (by decide +kernel : decode (jx_mb 76) 40 = .ok (.if_icmp .gt 7, 3))) rfl jx_hGt
  · exact fun d lv st M Q => jx_ev_st (jx_fok (by decide +kernel : decode (jx_mb 76) 43 = .ok (.iconst 1, 1))) rfl rfl rfl
  · exact fun d lv st M Q => jx_k_goto (jx_fok (by decide +kernel : decode (jx_mb 76) 44 = .ok (.goto 8, 3))) rfl
  · exact fun d st M Q l1 l2 x => jx_ev_st (jx_fok (by decide +kernel : decode (jx_mb 76) 47 = .ok (.aload_n 0, 1))) rfl rfl rfl
  · exact fun d lv st M Q => jx_ev_st (jx_fok (by decide +kernel : decode (jx_mb 76) 48 = .ok (.iconst 2, 1))) rfl rfl rfl
  · exact fun d lv M Q a0 => jx_ev_ci (jx_fok (by decide +kernel : decode (jx_mb 76) 49 = .ok (.invokevirtual 81, 3))) rfl (jx_ccV (As := [.int a0]) (rest := []) rfl rfl rfl rfl rfl rfl) (by decide)
  · exact fun d lv M Q x => jx_k_ri (jx_fok (by decide +kernel : decode (jx_mb 76) 52 = .ok (.ireturn, 1))) rfl
theorem kX7_as (d : Nat) (M : jx_M) (q : Int32 → jx_M → Prop) (a0 a1 a2 : Value) : jx_I d 76 [a0, a1, a2] M q ↔ jx_Ev d 76 0 [some a0, some a1, some a2] [] M (jx_qI q) := Iff.rfl
set_option maxRecDepth 100000 in
theorem eX7_trace :
  (∀ (d : Nat) (st : List Value) (M : jx_M) (Q : jx_Po) (x : Nat), jx_Ev d 77 0 [some (.ref x)] st M Q ↔ jx_Ev d 77 1 [some (.ref x)] (.ref x :: st) M Q) ∧
  (∀ (d : Nat) (lv : List (Option Value)) (st : List Value) (M : jx_M) (Q : jx_Po), jx_Ev d 77 1 lv (.ref 0 :: st) M Q ↔ jx_Ev d 77 4 lv (.int (M 0 8) :: st) M Q) ∧
  (∀ (d : Nat) (lv : List (Option Value)) (M : jx_M) (Q : jx_Po) (x : Int32), jx_Ev d 77 4 lv [.int x] M Q ↔ Q [.int x] M) := by
  refine ⟨?_, ?_, ?_⟩
  · exact fun d st M Q x => jx_ev_st (jx_fok (by decide +kernel : decode (jx_mb 77) 0 = .ok (.aload_n 0, 1))) rfl rfl rfl
  · exact fun d lv st M Q => jx_k_gf (jx_fok (by decide +kernel : decode (jx_mb 77) 1 = .ok (.getfield 62, 3))) rfl rfl rfl
  · exact fun d lv M Q x => jx_k_ri (jx_fok (by decide +kernel : decode (jx_mb 77) 4 = .ok (.ireturn, 1))) rfl
theorem kX7_trace (d : Nat) (M : jx_M) (q : Int32 → jx_M → Prop) (a0 : Value) : jx_I d 77 [a0] M q ↔ jx_Ev d 77 0 [some a0] [] M (jx_qI q) := Iff.rfl
set_option maxRecDepth 100000 in
theorem eX7_fault :
  (∀ (d : Nat) (st : List Value) (M : jx_M) (Q : jx_Po) (x : Nat), jx_Ev d 78 0 [some (.ref x)] st M Q ↔ jx_Ev d 78 1 [some (.ref x)] (.ref x :: st) M Q) ∧
  (∀ (d : Nat) (lv : List (Option Value)) (st : List Value) (M : jx_M) (Q : jx_Po), jx_Ev d 78 1 lv (.ref 0 :: st) M Q ↔ jx_Ev d 78 4 lv (.int (M 0 9) :: st) M Q) ∧
  (∀ (d : Nat) (lv : List (Option Value)) (M : jx_M) (Q : jx_Po) (x : Int32), jx_Ev d 78 4 lv [.int x] M Q ↔ Q [.int x] M) := by
  refine ⟨?_, ?_, ?_⟩
  · exact fun d st M Q x => jx_ev_st (jx_fok (by decide +kernel : decode (jx_mb 78) 0 = .ok (.aload_n 0, 1))) rfl rfl rfl
  · exact fun d lv st M Q => jx_k_gf (jx_fok (by decide +kernel : decode (jx_mb 78) 1 = .ok (.getfield 66, 3))) rfl rfl rfl
  · exact fun d lv M Q x => jx_k_ri (jx_fok (by decide +kernel : decode (jx_mb 78) 4 = .ok (.ireturn, 1))) rfl
theorem kX7_fault (d : Nat) (M : jx_M) (q : Int32 → jx_M → Prop) (a0 : Value) : jx_I d 78 [a0] M q ↔ jx_Ev d 78 0 [some a0] [] M (jx_qI q) := Iff.rfl
set_option maxRecDepth 100000 in
theorem eX7_many :
  (∀ (d : Nat) (st : List Value) (M : jx_M) (Q : jx_Po) (l0 : Option Value) (x : Int32), jx_Ev d 79 0 [l0, some (.int x)] st M Q ↔ jx_Ev d 79 1 [l0, some (.int x)] (.int x :: st) M Q) ∧
  (∀ (d : Nat) (lv : List (Option Value)) (st : List Value) (M : jx_M) (Q : jx_Po) (x : Int32), jx_Ev d 79 1 lv (.int x :: st) M Q ↔ (if x = 0 then jx_Ev d 79 36 lv st M Q else if x = 1 then jx_Ev d 79 44 lv st M Q else if x = 2 then jx_Ev d 79 52 lv st M Q else if x = 3 then jx_Ev d 79 60 lv st M Q else if x = 4 then jx_Ev d 79 68 lv st M Q else jx_Ev d 79 76 lv st M Q)) ∧
  (∀ (d : Nat) (st : List Value) (M : jx_M) (Q : jx_Po) (l1 : Option Value) (x : Nat), jx_Ev d 79 36 [some (.ref x), l1] st M Q ↔ jx_Ev d 79 37 [some (.ref x), l1] (.ref x :: st) M Q) ∧
  (∀ (d : Nat) (lv : List (Option Value)) (st : List Value) (M : jx_M) (Q : jx_Po), jx_Ev d 79 37 lv (.ref 0 :: st) M Q ↔ jx_Ev d 79 40 lv (jx_rv (M 0 6) :: st) M Q) ∧
  (∀ (d : Nat) (lv : List (Option Value)) (st : List Value) (M : jx_M) (Q : jx_Po) (k : Nat) (hk : jx_cl k = 1), jx_Ev d 79 40 lv (.ref k :: st) M Q ↔ jx_Ev d 79 43 lv (.int (M k 6) :: st) M Q) ∧
  (∀ (d : Nat) (lv : List (Option Value)) (M : jx_M) (Q : jx_Po) (x : Int32), jx_Ev d 79 43 lv [.int x] M Q ↔ Q [.int x] M) ∧
  (∀ (d : Nat) (st : List Value) (M : jx_M) (Q : jx_Po) (l1 : Option Value) (x : Nat), jx_Ev d 79 44 [some (.ref x), l1] st M Q ↔ jx_Ev d 79 45 [some (.ref x), l1] (.ref x :: st) M Q) ∧
  (∀ (d : Nat) (lv : List (Option Value)) (st : List Value) (M : jx_M) (Q : jx_Po), jx_Ev d 79 45 lv (.ref 0 :: st) M Q ↔ jx_Ev d 79 48 lv (jx_rv (M 0 6) :: st) M Q) ∧
  (∀ (d : Nat) (lv : List (Option Value)) (st : List Value) (M : jx_M) (Q : jx_Po) (k : Nat) (hk : jx_cl k = 1), jx_Ev d 79 48 lv (.ref k :: st) M Q ↔ jx_Ev d 79 51 lv (.int (M k 5) :: st) M Q) ∧
  (∀ (d : Nat) (lv : List (Option Value)) (M : jx_M) (Q : jx_Po) (x : Int32), jx_Ev d 79 51 lv [.int x] M Q ↔ Q [.int x] M) ∧
  (∀ (d : Nat) (st : List Value) (M : jx_M) (Q : jx_Po) (l1 : Option Value) (x : Nat), jx_Ev d 79 52 [some (.ref x), l1] st M Q ↔ jx_Ev d 79 53 [some (.ref x), l1] (.ref x :: st) M Q) ∧
  (∀ (d : Nat) (lv : List (Option Value)) (st : List Value) (M : jx_M) (Q : jx_Po), jx_Ev d 79 53 lv (.ref 0 :: st) M Q ↔ jx_Ev d 79 56 lv (jx_rv (M 0 6) :: st) M Q) ∧
  (∀ (d : Nat) (lv : List (Option Value)) (st : List Value) (M : jx_M) (Q : jx_Po) (k : Nat) (hk : jx_cl k = 1), jx_Ev d 79 56 lv (.ref k :: st) M Q ↔ jx_Ev d 79 59 lv (.int (M k 7) :: st) M Q) ∧
  (∀ (d : Nat) (lv : List (Option Value)) (M : jx_M) (Q : jx_Po) (x : Int32), jx_Ev d 79 59 lv [.int x] M Q ↔ Q [.int x] M) ∧
  (∀ (d : Nat) (st : List Value) (M : jx_M) (Q : jx_Po) (l1 : Option Value) (x : Nat), jx_Ev d 79 60 [some (.ref x), l1] st M Q ↔ jx_Ev d 79 61 [some (.ref x), l1] (.ref x :: st) M Q) ∧
  (∀ (d : Nat) (lv : List (Option Value)) (st : List Value) (M : jx_M) (Q : jx_Po), jx_Ev d 79 61 lv (.ref 0 :: st) M Q ↔ jx_Ev d 79 64 lv (jx_rv (M 0 6) :: st) M Q) ∧
  (∀ (d : Nat) (lv : List (Option Value)) (st : List Value) (M : jx_M) (Q : jx_Po) (k : Nat) (hk : jx_cl k = 1), jx_Ev d 79 64 lv (.ref k :: st) M Q ↔ jx_Ev d 79 67 lv (.int (M k 8) :: st) M Q) ∧
  (∀ (d : Nat) (lv : List (Option Value)) (M : jx_M) (Q : jx_Po) (x : Int32), jx_Ev d 79 67 lv [.int x] M Q ↔ Q [.int x] M) ∧
  (∀ (d : Nat) (st : List Value) (M : jx_M) (Q : jx_Po) (l1 : Option Value) (x : Nat), jx_Ev d 79 68 [some (.ref x), l1] st M Q ↔ jx_Ev d 79 69 [some (.ref x), l1] (.ref x :: st) M Q) ∧
  (∀ (d : Nat) (lv : List (Option Value)) (st : List Value) (M : jx_M) (Q : jx_Po), jx_Ev d 79 69 lv (.ref 0 :: st) M Q ↔ jx_Ev d 79 72 lv (.ref 3 :: st) M Q) ∧
  (∀ (d : Nat) (lv : List (Option Value)) (st : List Value) (M : jx_M) (Q : jx_Po), jx_Ev d 79 72 lv (.ref 3 :: st) M Q ↔ jx_Ev d 79 75 lv (.int (M 3 3) :: st) M Q) ∧
  (∀ (d : Nat) (lv : List (Option Value)) (M : jx_M) (Q : jx_Po) (x : Int32), jx_Ev d 79 75 lv [.int x] M Q ↔ Q [.int x] M) ∧
  (∀ (d : Nat) (lv : List (Option Value)) (st : List Value) (M : jx_M) (Q : jx_Po), jx_Ev d 79 76 lv st M Q ↔ jx_Ev d 79 78 lv (.int (-2) :: st) M Q) ∧
  (∀ (d : Nat) (lv : List (Option Value)) (M : jx_M) (Q : jx_Po) (x : Int32), jx_Ev d 79 78 lv [.int x] M Q ↔ Q [.int x] M) := by
  refine ⟨?_, ?_, ?_, ?_, ?_, ?_, ?_, ?_, ?_, ?_, ?_, ?_, ?_, ?_, ?_, ?_, ?_, ?_, ?_, ?_, ?_, ?_, ?_, ?_⟩
  · exact fun d st M Q l0 x => jx_ev_st (jx_fok (by decide +kernel : decode (jx_mb 79) 0 = .ok (.iload_n 1, 1))) rfl rfl rfl
  · intro d lv st M Q x
    by_cases h0 : x = 0
    · subst h0; rw [if_pos rfl]; exact jx_k_tsi (jx_fok (by decide +kernel : decode (jx_mb 79) 1 = .ok (.tableswitch 75 0 4 #[35, 43, 51, 59, 67], 35))) (by decide) rfl rfl
    rw [if_neg h0]
    by_cases h1 : x = 1
    · subst h1; rw [if_pos rfl]; exact jx_k_tsi (jx_fok (by decide +kernel : decode (jx_mb 79) 1 = .ok (.tableswitch 75 0 4 #[35, 43, 51, 59, 67], 35))) (by decide) rfl rfl
    rw [if_neg h1]
    by_cases h2 : x = 2
    · subst h2; rw [if_pos rfl]; exact jx_k_tsi (jx_fok (by decide +kernel : decode (jx_mb 79) 1 = .ok (.tableswitch 75 0 4 #[35, 43, 51, 59, 67], 35))) (by decide) rfl rfl
    rw [if_neg h2]
    by_cases h3 : x = 3
    · subst h3; rw [if_pos rfl]; exact jx_k_tsi (jx_fok (by decide +kernel : decode (jx_mb 79) 1 = .ok (.tableswitch 75 0 4 #[35, 43, 51, 59, 67], 35))) (by decide) rfl rfl
    rw [if_neg h3]
    by_cases h4 : x = 4
    · subst h4; rw [if_pos rfl]; exact jx_k_tsi (jx_fok (by decide +kernel : decode (jx_mb 79) 1 = .ok (.tableswitch 75 0 4 #[35, 43, 51, 59, 67], 35))) (by decide) rfl rfl
    rw [if_neg h4]
    exact jx_k_tso (jx_fok (by decide +kernel : decode (jx_mb 79) 1 = .ok (.tableswitch 75 0 4 #[35, 43, 51, 59, 67], 35))) (by have e := jx_tsx5 (x := x) h0 h1 h2 h3 h4; omega) rfl
  · exact fun d st M Q l1 x => jx_ev_st (jx_fok (by decide +kernel : decode (jx_mb 79) 36 = .ok (.aload_n 0, 1))) rfl rfl rfl
  · exact fun d lv st M Q => jx_k_gf (jx_fok (by decide +kernel : decode (jx_mb 79) 37 = .ok (.getfield 55, 3))) rfl rfl rfl
  · exact fun d lv st M Q k hk => jx_k_gf (jx_fok (by decide +kernel : decode (jx_mb 79) 40 = .ok (.getfield 92, 3))) rfl hk rfl
  · exact fun d lv M Q x => jx_k_ri (jx_fok (by decide +kernel : decode (jx_mb 79) 43 = .ok (.ireturn, 1))) rfl
  · exact fun d st M Q l1 x => jx_ev_st (jx_fok (by decide +kernel : decode (jx_mb 79) 44 = .ok (.aload_n 0, 1))) rfl rfl rfl
  · exact fun d lv st M Q => jx_k_gf (jx_fok (by decide +kernel : decode (jx_mb 79) 45 = .ok (.getfield 55, 3))) rfl rfl rfl
  · exact fun d lv st M Q k hk => jx_k_gf (jx_fok (by decide +kernel : decode (jx_mb 79) 48 = .ok (.getfield 247, 3))) rfl hk rfl
  · exact fun d lv M Q x => jx_k_ri (jx_fok (by decide +kernel : decode (jx_mb 79) 51 = .ok (.ireturn, 1))) rfl
  · exact fun d st M Q l1 x => jx_ev_st (jx_fok (by decide +kernel : decode (jx_mb 79) 52 = .ok (.aload_n 0, 1))) rfl rfl rfl
  · exact fun d lv st M Q => jx_k_gf (jx_fok (by decide +kernel : decode (jx_mb 79) 53 = .ok (.getfield 55, 3))) rfl rfl rfl
  · exact fun d lv st M Q k hk => jx_k_gf (jx_fok (by decide +kernel : decode (jx_mb 79) 56 = .ok (.getfield 127, 3))) rfl hk rfl
  · exact fun d lv M Q x => jx_k_ri (jx_fok (by decide +kernel : decode (jx_mb 79) 59 = .ok (.ireturn, 1))) rfl
  · exact fun d st M Q l1 x => jx_ev_st (jx_fok (by decide +kernel : decode (jx_mb 79) 60 = .ok (.aload_n 0, 1))) rfl rfl rfl
  · exact fun d lv st M Q => jx_k_gf (jx_fok (by decide +kernel : decode (jx_mb 79) 61 = .ok (.getfield 55, 3))) rfl rfl rfl
  · exact fun d lv st M Q k hk => jx_k_gf (jx_fok (by decide +kernel : decode (jx_mb 79) 64 = .ok (.getfield 250, 3))) rfl hk rfl
  · exact fun d lv M Q x => jx_k_ri (jx_fok (by decide +kernel : decode (jx_mb 79) 67 = .ok (.ireturn, 1))) rfl
  · exact fun d st M Q l1 x => jx_ev_st (jx_fok (by decide +kernel : decode (jx_mb 79) 68 = .ok (.aload_n 0, 1))) rfl rfl rfl
  · exact fun d lv st M Q => jx_k_gf (jx_fok (by decide +kernel : decode (jx_mb 79) 69 = .ok (.getfield 27, 3))) rfl rfl rfl
  · exact fun d lv st M Q => jx_k_gf (jx_fok (by decide +kernel : decode (jx_mb 79) 72 = .ok (.getfield 95, 3))) rfl rfl rfl
  · exact fun d lv M Q x => jx_k_ri (jx_fok (by decide +kernel : decode (jx_mb 79) 75 = .ok (.ireturn, 1))) rfl
  · exact fun d lv st M Q => jx_ev_st (jx_fok (by decide +kernel : decode (jx_mb 79) 76 = .ok (.bipush (-2), 2))) rfl rfl rfl
  · exact fun d lv M Q x => jx_k_ri (jx_fok (by decide +kernel : decode (jx_mb 79) 78 = .ok (.ireturn, 1))) rfl
theorem kX7_many (d : Nat) (M : jx_M) (q : Int32 → jx_M → Prop) (a0 a1 : Value) : jx_I d 79 [a0, a1] M q ↔ jx_Ev d 79 0 [some a0, some a1] [] M (jx_qI q) := Iff.rfl
set_option maxRecDepth 100000 in
theorem eX7_isSheet :
  (∀ (d : Nat) (st : List Value) (M : jx_M) (Q : jx_Po) (x : Int32), jx_Ev d 80 0 [some (.int x)] st M Q ↔ jx_Ev d 80 1 [some (.int x)] (.int x :: st) M Q) ∧
  (∀ (d : Nat) (lv : List (Option Value)) (st : List Value) (M : jx_M) (Q : jx_Po) (x : Int32), jx_Ev d 80 1 lv (.int x :: st) M Q ↔ (if x < 0 then jx_Ev d 80 13 lv st M Q else jx_Ev d 80 4 lv st M Q)) ∧
  (∀ (d : Nat) (st : List Value) (M : jx_M) (Q : jx_Po) (x : Int32), jx_Ev d 80 4 [some (.int x)] st M Q ↔ jx_Ev d 80 5 [some (.int x)] (.int x :: st) M Q) ∧
  (∀ (d : Nat) (lv : List (Option Value)) (st : List Value) (M : jx_M) (Q : jx_Po), jx_Ev d 80 5 lv st M Q ↔ jx_Ev d 80 6 lv (.int 4 :: st) M Q) ∧
  (∀ (d : Nat) (lv : List (Option Value)) (st : List Value) (M : jx_M) (Q : jx_Po) (x z : Int32), jx_Ev d 80 6 lv (.int z :: .int x :: st) M Q ↔ (if z ≤ x then jx_Ev d 80 13 lv st M Q else jx_Ev d 80 9 lv st M Q)) ∧
  (∀ (d : Nat) (lv : List (Option Value)) (st : List Value) (M : jx_M) (Q : jx_Po), jx_Ev d 80 9 lv st M Q ↔ jx_Ev d 80 10 lv (.int 1 :: st) M Q) ∧
  (∀ (d : Nat) (lv : List (Option Value)) (st : List Value) (M : jx_M) (Q : jx_Po), jx_Ev d 80 10 lv st M Q ↔ jx_Ev d 80 14 lv st M Q) ∧
  (∀ (d : Nat) (lv : List (Option Value)) (st : List Value) (M : jx_M) (Q : jx_Po), jx_Ev d 80 13 lv st M Q ↔ jx_Ev d 80 14 lv (.int 0 :: st) M Q) ∧
  (∀ (d : Nat) (lv : List (Option Value)) (M : jx_M) (Q : jx_Po) (x : Int32), jx_Ev d 80 14 lv [.int x] M Q ↔ ((x = 0 ∨ x = 1) ∧ Q [.int x] M)) := by
  refine ⟨?_, ?_, ?_, ?_, ?_, ?_, ?_, ?_, ?_⟩
  · exact fun d st M Q x => jx_ev_st (jx_fok (by decide +kernel : decode (jx_mb 80) 0 = .ok (.iload_n 0, 1))) rfl rfl rfl
  · exact fun d lv st M Q x => jx_k_b1 (jx_fok (by decide +kernel : decode (jx_mb 80) 1 = .ok (.ifCond .lt 12, 3))) rfl jx_hLt
  · exact fun d st M Q x => jx_ev_st (jx_fok (by decide +kernel : decode (jx_mb 80) 4 = .ok (.iload_n 0, 1))) rfl rfl rfl
  · exact fun d lv st M Q => jx_ev_st (jx_fok (by decide +kernel : decode (jx_mb 80) 5 = .ok (.iconst 4, 1))) rfl rfl rfl
  · exact fun d lv st M Q x z => jx_k_b2 (jx_fok (by decide +kernel : decode (jx_mb 80) 6 = .ok (.if_icmp .ge 7, 3))) rfl jx_hGe
  · exact fun d lv st M Q => jx_ev_st (jx_fok (by decide +kernel : decode (jx_mb 80) 9 = .ok (.iconst 1, 1))) rfl rfl rfl
  · exact fun d lv st M Q => jx_k_goto (jx_fok (by decide +kernel : decode (jx_mb 80) 10 = .ok (.goto 4, 3))) rfl
  · exact fun d lv st M Q => jx_ev_st (jx_fok (by decide +kernel : decode (jx_mb 80) 13 = .ok (.iconst 0, 1))) rfl rfl rfl
  · exact fun d lv M Q x => jx_k_rz (jx_fok (by decide +kernel : decode (jx_mb 80) 14 = .ok (.ireturn, 1))) rfl
theorem kX7_isSheet (d : Nat) (M : jx_M) (q : Int32 → jx_M → Prop) (a0 : Value) : jx_I d 80 [a0] M q ↔ jx_Ev d 80 0 [some a0] [] M (jx_qI q) := Iff.rfl
set_option maxRecDepth 100000 in
theorem eX7_isLane :
  (∀ (d : Nat) (st : List Value) (M : jx_M) (Q : jx_Po) (x : Int32), jx_Ev d 81 0 [some (.int x)] st M Q ↔ jx_Ev d 81 1 [some (.int x)] (.int x :: st) M Q) ∧
  (∀ (d : Nat) (lv : List (Option Value)) (st : List Value) (M : jx_M) (Q : jx_Po) (x : Int32), jx_Ev d 81 1 lv (.int x :: st) M Q ↔ (if x < 0 then jx_Ev d 81 13 lv st M Q else jx_Ev d 81 4 lv st M Q)) ∧
  (∀ (d : Nat) (st : List Value) (M : jx_M) (Q : jx_Po) (x : Int32), jx_Ev d 81 4 [some (.int x)] st M Q ↔ jx_Ev d 81 5 [some (.int x)] (.int x :: st) M Q) ∧
  (∀ (d : Nat) (lv : List (Option Value)) (st : List Value) (M : jx_M) (Q : jx_Po), jx_Ev d 81 5 lv st M Q ↔ jx_Ev d 81 6 lv (.int 2 :: st) M Q) ∧
  (∀ (d : Nat) (lv : List (Option Value)) (st : List Value) (M : jx_M) (Q : jx_Po) (x z : Int32), jx_Ev d 81 6 lv (.int z :: .int x :: st) M Q ↔ (if z < x then jx_Ev d 81 13 lv st M Q else jx_Ev d 81 9 lv st M Q)) ∧
  (∀ (d : Nat) (lv : List (Option Value)) (st : List Value) (M : jx_M) (Q : jx_Po), jx_Ev d 81 9 lv st M Q ↔ jx_Ev d 81 10 lv (.int 1 :: st) M Q) ∧
  (∀ (d : Nat) (lv : List (Option Value)) (st : List Value) (M : jx_M) (Q : jx_Po), jx_Ev d 81 10 lv st M Q ↔ jx_Ev d 81 14 lv st M Q) ∧
  (∀ (d : Nat) (lv : List (Option Value)) (st : List Value) (M : jx_M) (Q : jx_Po), jx_Ev d 81 13 lv st M Q ↔ jx_Ev d 81 14 lv (.int 0 :: st) M Q) ∧
  (∀ (d : Nat) (lv : List (Option Value)) (M : jx_M) (Q : jx_Po) (x : Int32), jx_Ev d 81 14 lv [.int x] M Q ↔ ((x = 0 ∨ x = 1) ∧ Q [.int x] M)) := by
  refine ⟨?_, ?_, ?_, ?_, ?_, ?_, ?_, ?_, ?_⟩
  · exact fun d st M Q x => jx_ev_st (jx_fok (by decide +kernel : decode (jx_mb 81) 0 = .ok (.iload_n 0, 1))) rfl rfl rfl
  · exact fun d lv st M Q x => jx_k_b1 (jx_fok (by decide +kernel : decode (jx_mb 81) 1 = .ok (.ifCond .lt 12, 3))) rfl jx_hLt
  · exact fun d st M Q x => jx_ev_st (jx_fok (by decide +kernel : decode (jx_mb 81) 4 = .ok (.iload_n 0, 1))) rfl rfl rfl
  · exact fun d lv st M Q => jx_ev_st (jx_fok (by decide +kernel : decode (jx_mb 81) 5 = .ok (.iconst 2, 1))) rfl rfl rfl
  · exact fun d lv st M Q x z => jx_k_b2 (jx_fok (by decide +kernel : decode (jx_mb 81) 6 = .ok (.if_icmp .gt 7, 3))) rfl jx_hGt
  · exact fun d lv st M Q => jx_ev_st (jx_fok (by decide +kernel : decode (jx_mb 81) 9 = .ok (.iconst 1, 1))) rfl rfl rfl
  · exact fun d lv st M Q => jx_k_goto (jx_fok (by decide +kernel : decode (jx_mb 81) 10 = .ok (.goto 4, 3))) rfl
  · exact fun d lv st M Q => jx_ev_st (jx_fok (by decide +kernel : decode (jx_mb 81) 13 = .ok (.iconst 0, 1))) rfl rfl rfl
  · exact fun d lv M Q x => jx_k_rz (jx_fok (by decide +kernel : decode (jx_mb 81) 14 = .ok (.ireturn, 1))) rfl
theorem kX7_isLane (d : Nat) (M : jx_M) (q : Int32 → jx_M → Prop) (a0 : Value) : jx_I d 81 [a0] M q ↔ jx_Ev d 81 0 [some a0] [] M (jx_qI q) := Iff.rfl
set_option maxRecDepth 100000 in
theorem eX7_isMonth :
  (∀ (d : Nat) (st : List Value) (M : jx_M) (Q : jx_Po) (x : Int32), jx_Ev d 82 0 [some (.int x)] st M Q ↔ jx_Ev d 82 1 [some (.int x)] (.int x :: st) M Q) ∧
  (∀ (d : Nat) (lv : List (Option Value)) (st : List Value) (M : jx_M) (Q : jx_Po) (x : Int32), jx_Ev d 82 1 lv (.int x :: st) M Q ↔ (if x < 0 then jx_Ev d 82 14 lv st M Q else jx_Ev d 82 4 lv st M Q)) ∧
  (∀ (d : Nat) (st : List Value) (M : jx_M) (Q : jx_Po) (x : Int32), jx_Ev d 82 4 [some (.int x)] st M Q ↔ jx_Ev d 82 5 [some (.int x)] (.int x :: st) M Q) ∧
  (∀ (d : Nat) (lv : List (Option Value)) (st : List Value) (M : jx_M) (Q : jx_Po), jx_Ev d 82 5 lv st M Q ↔ jx_Ev d 82 7 lv (.int 9 :: st) M Q) ∧
  (∀ (d : Nat) (lv : List (Option Value)) (st : List Value) (M : jx_M) (Q : jx_Po) (x z : Int32), jx_Ev d 82 7 lv (.int z :: .int x :: st) M Q ↔ (if z < x then jx_Ev d 82 14 lv st M Q else jx_Ev d 82 10 lv st M Q)) ∧
  (∀ (d : Nat) (lv : List (Option Value)) (st : List Value) (M : jx_M) (Q : jx_Po), jx_Ev d 82 10 lv st M Q ↔ jx_Ev d 82 11 lv (.int 1 :: st) M Q) ∧
  (∀ (d : Nat) (lv : List (Option Value)) (st : List Value) (M : jx_M) (Q : jx_Po), jx_Ev d 82 11 lv st M Q ↔ jx_Ev d 82 15 lv st M Q) ∧
  (∀ (d : Nat) (lv : List (Option Value)) (st : List Value) (M : jx_M) (Q : jx_Po), jx_Ev d 82 14 lv st M Q ↔ jx_Ev d 82 15 lv (.int 0 :: st) M Q) ∧
  (∀ (d : Nat) (lv : List (Option Value)) (M : jx_M) (Q : jx_Po) (x : Int32), jx_Ev d 82 15 lv [.int x] M Q ↔ ((x = 0 ∨ x = 1) ∧ Q [.int x] M)) := by
  refine ⟨?_, ?_, ?_, ?_, ?_, ?_, ?_, ?_, ?_⟩
  · exact fun d st M Q x => jx_ev_st (jx_fok (by decide +kernel : decode (jx_mb 82) 0 = .ok (.iload_n 0, 1))) rfl rfl rfl
  · exact fun d lv st M Q x => jx_k_b1 (jx_fok (by decide +kernel : decode (jx_mb 82) 1 = .ok (.ifCond .lt 13, 3))) rfl jx_hLt
  · exact fun d st M Q x => jx_ev_st (jx_fok (by decide +kernel : decode (jx_mb 82) 4 = .ok (.iload_n 0, 1))) rfl rfl rfl
  · exact fun d lv st M Q => jx_ev_st (jx_fok (by decide +kernel : decode (jx_mb 82) 5 = .ok (.bipush 9, 2))) rfl rfl rfl
  · exact fun d lv st M Q x z => jx_k_b2 (jx_fok (by decide +kernel : decode (jx_mb 82) 7 = .ok (.if_icmp .gt 7, 3))) rfl jx_hGt
  · exact fun d lv st M Q => jx_ev_st (jx_fok (by decide +kernel : decode (jx_mb 82) 10 = .ok (.iconst 1, 1))) rfl rfl rfl
  · exact fun d lv st M Q => jx_k_goto (jx_fok (by decide +kernel : decode (jx_mb 82) 11 = .ok (.goto 4, 3))) rfl
  · exact fun d lv st M Q => jx_ev_st (jx_fok (by decide +kernel : decode (jx_mb 82) 14 = .ok (.iconst 0, 1))) rfl rfl rfl
  · exact fun d lv M Q x => jx_k_rz (jx_fok (by decide +kernel : decode (jx_mb 82) 15 = .ok (.ireturn, 1))) rfl
theorem kX7_isMonth (d : Nat) (M : jx_M) (q : Int32 → jx_M → Prop) (a0 : Value) : jx_I d 82 [a0] M q ↔ jx_Ev d 82 0 [some a0] [] M (jx_qI q) := Iff.rfl
set_option maxRecDepth 100000 in
theorem eX7_faultAnswer :
  (∀ (d : Nat) (st : List Value) (M : jx_M) (Q : jx_Po) (l1 : Option Value) (x : Nat), jx_Ev d 83 0 [some (.ref x), l1] st M Q ↔ jx_Ev d 83 1 [some (.ref x), l1] (.ref x :: st) M Q) ∧
  (∀ (d : Nat) (st : List Value) (M : jx_M) (Q : jx_Po) (l0 : Option Value) (x : Int32), jx_Ev d 83 1 [l0, some (.int x)] st M Q ↔ jx_Ev d 83 2 [l0, some (.int x)] (.int x :: st) M Q) ∧
  (∀ (d : Nat) (lv : List (Option Value)) (st : List Value) (M : jx_M) (Q : jx_Po) (x : Int32), jx_Ev d 83 2 lv (.int x :: .ref 0 :: st) M Q ↔ jx_Ev d 83 5 lv st (jx_up M 0 9 x) Q) ∧
  (∀ (d : Nat) (lv : List (Option Value)) (st : List Value) (M : jx_M) (Q : jx_Po), jx_Ev d 83 5 lv st M Q ↔ jx_Ev d 83 7 lv (.int (-10) :: st) M Q) ∧
  (∀ (d : Nat) (st : List Value) (M : jx_M) (Q : jx_Po) (l0 : Option Value) (x : Int32), jx_Ev d 83 7 [l0, some (.int x)] st M Q ↔ jx_Ev d 83 8 [l0, some (.int x)] (.int x :: st) M Q) ∧
  (∀ (d : Nat) (lv : List (Option Value)) (st : List Value) (M : jx_M) (Q : jx_Po) (x z : Int32), jx_Ev d 83 8 lv (.int z :: .int x :: st) M Q ↔ jx_Ev d 83 9 lv (.int (x - z) :: st) M Q) ∧
  (∀ (d : Nat) (lv : List (Option Value)) (M : jx_M) (Q : jx_Po) (x : Int32), jx_Ev d 83 9 lv [.int x] M Q ↔ Q [.int x] M) := by
  refine ⟨?_, ?_, ?_, ?_, ?_, ?_, ?_⟩
  · exact fun d st M Q l1 x => jx_ev_st (jx_fok (by decide +kernel : decode (jx_mb 83) 0 = .ok (.aload_n 0, 1))) rfl rfl rfl
  · exact fun d st M Q l0 x => jx_ev_st (jx_fok (by decide +kernel : decode (jx_mb 83) 1 = .ok (.iload_n 1, 1))) rfl rfl rfl
  · exact fun d lv st M Q x => jx_k_pf0 (jx_fok (by decide +kernel : decode (jx_mb 83) 2 = .ok (.putfield 66, 3))) rfl rfl rfl
  · exact fun d lv st M Q => jx_ev_st (jx_fok (by decide +kernel : decode (jx_mb 83) 5 = .ok (.bipush (-10), 2))) rfl rfl rfl
  · exact fun d st M Q l0 x => jx_ev_st (jx_fok (by decide +kernel : decode (jx_mb 83) 7 = .ok (.iload_n 1, 1))) rfl rfl rfl
  · exact fun d lv st M Q x z => jx_ev_st (jx_fok (by decide +kernel : decode (jx_mb 83) 8 = .ok (.isub, 1))) rfl rfl rfl
  · exact fun d lv M Q x => jx_k_ri (jx_fok (by decide +kernel : decode (jx_mb 83) 9 = .ok (.ireturn, 1))) rfl
theorem kX7_faultAnswer (d : Nat) (M : jx_M) (q : Int32 → jx_M → Prop) (a0 a1 : Value) : jx_I d 83 [a0, a1] M q ↔ jx_Ev d 83 0 [some a0, some a1] [] M (jx_qI q) := Iff.rfl
